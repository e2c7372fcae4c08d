/-! ===== walks (printed by program) ===== -/
set_option maxRecDepth 100000 in
set_option maxHeartbeats 4000000 in
theorem c_X7_windAt (l : Launch) (G : GE) (x0 : Nat) (x1 : Int32) (h : PH) (rr : Int32) (hh : PH) (hf : f_X7_windAt G x0 x1 h = some (rr, hh)) : Ct l yX7_windAt cX7_windAt 2 (some .int) rm_X7_windAt G [.ref x0, .int x1] h (some (.int rr)) hh := by
  refine Ct.of (plainFor_of_name (by decide)) (Nat.le_of_ble_eq_true rfl) ?_
  intro p e s m args below meth c ls X hH hl
  have hl : lv_has ls 2 [(0, .ref x0), (1, .int x1)] := hl
  have X : Cx G p s m args meth c cX7_windAt 2 RX7 "windAt" (some .int) := X
  have hx := X.1
  have hb := X.2.1
  unfold f_X7_windAt at hf
  obtain ⟨H, hHe⟩ : ∃ z, z = s.heap := ⟨_, rfl⟩
  obtain ⟨locs, hLe⟩ : ∃ z, z = ([] : List Loc) := ⟨_, rfl⟩
  rw [← hHe, ← hLe] at hH
  rw [← hHe, ← hLe]
  refine lv_iconst (v := 0) hx hb dX7_windAt_0 (by decide) ?_
  refine lv_aload_n hx hb dX7_windAt_1 rfl (lv_at hl 0 rfl) ?_
  refine p_getR X hH fg_RX7_19 hf dX7_windAt_2 (fun v1 _ hf => ?_)
  refine lv_aload_n hx hb dX7_windAt_5 rfl (lv_at hl 0 rfl) ?_
  refine p_cVI (As := []) (b := x0) (rest := [.ref v1, .int (0 : Int32)]) (ci := 8) X hH rfl hf (fun _ _ e_ => c_X7_entry l G x0 h _ _ e_) mv_X7_entry lk_RX7_56 (by decide) rfl hl.1 (Nat.le_of_ble_eq_true rfl) dX7_windAt_6 (c2 := 0) (s2 := 0) (by decide) (fun v2 h H locs hH hf => ?_)
  refine p_iald X hH hf dX7_windAt_9 (fun v3 _ hf => ?_)
  refine lv_iconst (v := 2) hx hb dX7_windAt_10 (by decide) ?_
  refine lv_aload_n hx hb dX7_windAt_11 rfl (lv_at hl 0 rfl) ?_
  refine lv_iload_n hx hb dX7_windAt_12 rfl (lv_at hl 1 rfl) ?_
  refine p_cVI (As := [.int x1]) (b := x0) (rest := [.int (2 : Int32), .int v3, .int (0 : Int32)]) (ci := 8) X hH rfl hf (fun _ _ e_ => c_X7_lee l G x0 x1 h _ _ e_) mv_X7_lee lk_RX7_64 (by decide) rfl hl.1 (Nat.le_of_ble_eq_true rfl) dX7_windAt_13 (c2 := 0) (s2 := 0) (by decide) (fun v4 h H locs hH hf => ?_)
  refine lv_imul hx hb dX7_windAt_16 ?_
  refine lv_isub hx hb dX7_windAt_17 ?_
  refine p_max X m_985 m_148 m_39 m_149 hl.1 (by decide) (Nat.le_of_ble_eq_true rfl) (by decide) (by decide) dX7_windAt_18 ?_
  exact p_iret X hH hf (by decide) (by decide) dX7_windAt_21
set_option maxRecDepth 100000 in
set_option maxHeartbeats 4000000 in
theorem c_X7_oil (l : Launch) (G : GE) (x0 : Nat) (x1 : Int32) (h : PH) (rr : Unit) (hh : PH) (hf : f_X7_oil G x0 x1 h = some (rr, hh)) : Ct l yX7_oil cX7_oil 2 none rm_X7_oil G [.ref x0, .int x1] h none hh := by
  refine Ct.of (plainFor_of_name (by decide)) (Nat.le_of_ble_eq_true rfl) ?_
  intro p e s m args below meth c ls X hH hl
  have hl : lv_has ls 2 [(0, .ref x0), (1, .int x1)] := hl
  have X : Cx G p s m args meth c cX7_oil 2 RX7 "oil" none := X
  have hx := X.1
  have hb := X.2.1
  unfold f_X7_oil at hf
  obtain ⟨H, hHe⟩ : ∃ z, z = s.heap := ⟨_, rfl⟩
  obtain ⟨locs, hLe⟩ : ∃ z, z = ([] : List Loc) := ⟨_, rfl⟩
  rw [← hHe, ← hLe] at hH
  rw [← hHe, ← hLe]
  refine lv_aload_n hx hb dX7_oil_0 rfl (lv_at hl 0 rfl) ?_
  refine lv_iload_n hx hb dX7_oil_1 rfl (lv_at hl 1 rfl) ?_
  refine lv_iconst (v := 5) hx hb dX7_oil_2 (by decide) ?_
  refine lv_iconst (v := 0) hx hb dX7_oil_3 (by decide) ?_
  refine p_cVV (As := [.int x1, .int (5 : Int32), .int (0 : Int32)]) (b := x0) (rest := []) (ci := 8) X hH rfl hf (fun _ _ e_ => c_X7_set l G x0 x1 (5 : Int32) (0 : Int32) h _ _ e_) mv_X7_set lk_RX7_73 (by decide) rfl hl.1 (Nat.le_of_ble_eq_true rfl) dX7_oil_4 (c2 := 0) (s2 := 0) (by decide) (fun _ h H locs hH hf => ?_)
  refine lv_aload_n hx hb dX7_oil_7 rfl (lv_at hl 0 rfl) ?_
  refine lv_iload_n hx hb dX7_oil_8 rfl (lv_at hl 1 rfl) ?_
  refine lv_bipush (v := 9) hx hb dX7_oil_9 (by decide) ?_
  refine lv_iconst (v := 0) hx hb dX7_oil_11 (by decide) ?_
  refine p_cVV (As := [.int x1, .int (9 : Int32), .int (0 : Int32)]) (b := x0) (rest := []) (ci := 8) X hH rfl hf (fun _ _ e_ => c_X7_set l G x0 x1 (9 : Int32) (0 : Int32) h _ _ e_) mv_X7_set lk_RX7_73 (by decide) rfl hl.1 (Nat.le_of_ble_eq_true rfl) dX7_oil_12 (c2 := 0) (s2 := 0) (by decide) (fun _ h H locs hH hf => ?_)
  exact p_vret X hH hf (by decide) (by decide) dX7_oil_15
set_option maxRecDepth 100000 in
set_option maxHeartbeats 4000000 in
theorem w_X8_apart_b24 {G : GE} {p : Program} (l : Launch) {e : Env} {s : State} {m : MethodId} {args : Array Value} {below : List Frame} {meth : Method} {c : Code} {rr : Int32} {hh : PH} (X : Cx G p s m args meth c cX8_apart 3 RX8 "apart" (some .int)) (t0 : Int32) (h : PH) (H : Heap) (locs : List Loc) (ls : Array Slot) (hH : Hx G s h H locs) (hl : lv_has ls 3 []) (hf : f_X8_apart_b24 G t0 h = some (rr, hh)) : W p l e rm_X8_apart s m args below meth c H locs 0 0 (Fq G (some (.int rr)) hh below args s rm_X8_apart.cells rm_X8_apart.slots) (F0 m 24 ls [.int t0]) := by
  have hx := X.1
  have hb := X.2.1
  unfold f_X8_apart_b24 at hf
  exact p_iret X hH hf (by decide) (by decide) dX8_apart_24
set_option maxRecDepth 100000 in
set_option maxHeartbeats 4000000 in
theorem c_X8_apart (l : Launch) (G : GE) (x0 : Int32) (x1 : Int32) (h : PH) (rr : Int32) (hh : PH) (hf : f_X8_apart G x0 x1 h = some (rr, hh)) : Ct l yX8_apart cX8_apart 3 (some .int) rm_X8_apart G [.int x0, .int x1] h (some (.int rr)) hh := by
  refine Ct.of (plainFor_of_name (by decide)) (Nat.le_of_ble_eq_true rfl) ?_
  intro p e s m args below meth c ls X hH hl
  have hl : lv_has ls 3 [(0, .int x0), (1, .int x1)] := hl
  have X : Cx G p s m args meth c cX8_apart 3 RX8 "apart" (some .int) := X
  have hx := X.1
  have hb := X.2.1
  unfold f_X8_apart at hf
  obtain ⟨H, hHe⟩ : ∃ z, z = s.heap := ⟨_, rfl⟩
  obtain ⟨locs, hLe⟩ : ∃ z, z = ([] : List Loc) := ⟨_, rfl⟩
  rw [← hHe, ← hLe] at hH
  rw [← hHe, ← hLe]
  refine lv_iload_n hx hb dX8_apart_0 rfl (lv_at hl 1 rfl) ?_
  refine lv_iload_n hx hb dX8_apart_1 rfl (lv_at hl 0 rfl) ?_
  refine lv_isub hx hb dX8_apart_2 ?_
  refine lv_bipush (v := 16) hx hb dX8_apart_3 (by decide) ?_
  refine lv_iadd hx hb dX8_apart_5 ?_
  refine lv_bipush (v := 16) hx hb dX8_apart_6 (by decide) ?_
  refine lv_irem hx hb dX8_apart_8 (by decide) ?_
  refine lv_istore_n (lv' := [(2, .int (((x1 - x0) + (16 : Int32)) - ((x1 - x0) + (16 : Int32)) / (16 : Int32) * (16 : Int32))), (0, .int x0), (1, .int x1)]) hx hb dX8_apart_9 rfl hl (by decide) rfl (fun ls hl => ?_)
  refine lv_iload_n hx hb dX8_apart_10 rfl (lv_at hl 0 rfl) ?_
  refine lv_bipush (v := 8) hx hb dX8_apart_11 (by decide) ?_
  refine p_icmp_le X hf dX8_apart_13 (tgt := 23) (by decide) (fun _ hf => ?_) (fun _ hf => ?_)
  · refine lv_iload_n hx hb dX8_apart_23 rfl (lv_at hl 0 rfl) ?_
    exact w_X8_apart_b24 l X (((x1 - x0) + (16 : Int32)) - ((x1 - x0) + (16 : Int32)) / (16 : Int32) * (16 : Int32)) h H locs ls hH (lv_sub hl [] rfl) hf
  · refine lv_iload_n hx hb dX8_apart_16 rfl (lv_at hl 0 rfl) ?_
    refine lv_bipush (v := 16) hx hb dX8_apart_17 (by decide) ?_
    refine lv_isub hx hb dX8_apart_19 ?_
    refine lv_goto (tgt := 24) hx hb dX8_apart_20 (by decide) ?_
    exact w_X8_apart_b24 l X ((((x1 - x0) + (16 : Int32)) - ((x1 - x0) + (16 : Int32)) / (16 : Int32) * (16 : Int32)) - (16 : Int32)) h H locs ls hH (lv_sub hl [] rfl) hf
set_option maxRecDepth 100000 in
set_option maxHeartbeats 4000000 in
theorem w_X7_turn_b180 {G : GE} {p : Program} (l : Launch) {e : Env} {s : State} {m : MethodId} {args : Array Value} {below : List Frame} {meth : Method} {c : Code} {rr : Unit} {hh : PH} (X : Cx G p s m args meth c cX7_turn 5 RX7 "turn" none) (k2 : Nat → Int32 → PH → Option (Unit × PH)) (ik2 : ∀ (x0 : Nat) (x1 : Int32) (h : PH) (H : Heap) (locs : List Loc) (ls : Array Slot), Hx G s h H locs → lv_has ls 5 [(0, .ref x0), (1, .int x1)] → k2 x0 x1 h = some (rr, hh) → W p l e rm_X7_turn s m args below meth c H locs 0 0 (Fq G none hh below args s rm_X7_turn.cells rm_X7_turn.slots) (F0 m 2 ls [])) (x0 : Nat) (x1 : Int32) (h : PH) (H : Heap) (locs : List Loc) (ls : Array Slot) (hH : Hx G s h H locs) (hl : lv_has ls 5 [(0, .ref x0), (1, .int x1)]) (hf : f_X7_turn_b180 G k2 x0 x1 h = some (rr, hh)) : W p l e rm_X7_turn s m args below meth c H locs 0 0 (Fq G none hh below args s rm_X7_turn.cells rm_X7_turn.slots) (F0 m 180 ls []) := by
  have hx := X.1
  have hb := X.2.1
  unfold f_X7_turn_b180 at hf
  refine lv_iinc (v := (x1 + (1 : Int32))) (lv' := [(1, .int (x1 + (1 : Int32))), (0, .ref x0)]) hx hb dX7_turn_180 hl (k := 1) rfl rfl (by decide) rfl (fun ls hl => ?_)
  refine lv_goto (tgt := 2) hx hb dX7_turn_183 (by decide) ?_
  exact ik2 x0 (x1 + (1 : Int32)) h H locs ls hH (lv_sub hl [1, 0] rfl) hf
set_option maxRecDepth 100000 in
set_option maxHeartbeats 4000000 in
theorem w_X7_turn_b36 {G : GE} {p : Program} (l : Launch) {e : Env} {s : State} {m : MethodId} {args : Array Value} {below : List Frame} {meth : Method} {c : Code} {rr : Unit} {hh : PH} (X : Cx G p s m args meth c cX7_turn 5 RX7 "turn" none) (k2 : Nat → Int32 → PH → Option (Unit × PH)) (ik2 : ∀ (x0 : Nat) (x1 : Int32) (h : PH) (H : Heap) (locs : List Loc) (ls : Array Slot), Hx G s h H locs → lv_has ls 5 [(0, .ref x0), (1, .int x1)] → k2 x0 x1 h = some (rr, hh) → W p l e rm_X7_turn s m args below meth c H locs 0 0 (Fq G none hh below args s rm_X7_turn.cells rm_X7_turn.slots) (F0 m 2 ls [])) (x0 : Nat) (x1 : Int32) (h : PH) (H : Heap) (locs : List Loc) (ls : Array Slot) (hH : Hx G s h H locs) (hl : lv_has ls 5 [(0, .ref x0), (1, .int x1)]) (hf : f_X7_turn_b36 G k2 x0 x1 h = some (rr, hh)) : W p l e rm_X7_turn s m args below meth c H locs 0 0 (Fq G none hh below args s rm_X7_turn.cells rm_X7_turn.slots) (F0 m 36 ls []) := by
  have hx := X.1
  have hb := X.2.1
  unfold f_X7_turn_b36 at hf
  refine lv_aload_n hx hb dX7_turn_36 rfl (lv_at hl 0 rfl) ?_
  refine lv_iload_n hx hb dX7_turn_37 rfl (lv_at hl 1 rfl) ?_
  refine lv_bipush (v := 8) hx hb dX7_turn_38 (by decide) ?_
  refine lv_iconst (v := 0) hx hb dX7_turn_40 (by decide) ?_
  refine lv_aload_n hx hb dX7_turn_41 rfl (lv_at hl 0 rfl) ?_
  refine lv_iload_n hx hb dX7_turn_42 rfl (lv_at hl 1 rfl) ?_
  refine lv_bipush (v := 8) hx hb dX7_turn_43 (by decide) ?_
  refine p_cVI (As := [.int x1, .int (8 : Int32)]) (b := x0) (rest := [.int (0 : Int32), .int (8 : Int32), .int x1, .ref x0]) (ci := 8) X hH rfl hf (fun _ _ e_ => c_X7_of l G x0 x1 (8 : Int32) h _ _ e_) mv_X7_of lk_RX7_60 (by decide) rfl hl.1 (Nat.le_of_ble_eq_true rfl) dX7_turn_45 (c2 := 0) (s2 := 0) (by decide) (fun v15 h H locs hH hf => ?_)
  refine lv_iconst (v := 1) hx hb dX7_turn_48 (by decide) ?_
  refine lv_isub hx hb dX7_turn_49 ?_
  refine p_max X m_985 m_148 m_39 m_149 hl.1 (by decide) (Nat.le_of_ble_eq_true rfl) (by decide) (by decide) dX7_turn_50 ?_
  refine p_cVV (As := [.int x1, .int (8 : Int32), .int (mxI (0 : Int32) (v15 - (1 : Int32)))]) (b := x0) (rest := []) (ci := 8) X hH rfl hf (fun _ _ e_ => c_X7_set l G x0 x1 (8 : Int32) (mxI (0 : Int32) (v15 - (1 : Int32))) h _ _ e_) mv_X7_set lk_RX7_73 (by decide) rfl hl.1 (Nat.le_of_ble_eq_true rfl) dX7_turn_53 (c2 := 0) (s2 := 0) (by decide) (fun _ h H locs hH hf => ?_)
  refine lv_aload_n hx hb dX7_turn_56 rfl (lv_at hl 0 rfl) ?_
  refine lv_iload_n hx hb dX7_turn_57 rfl (lv_at hl 1 rfl) ?_
  refine lv_bipush (v := 7) hx hb dX7_turn_58 (by decide) ?_
  refine lv_iconst (v := 0) hx hb dX7_turn_60 (by decide) ?_
  refine p_cVV (As := [.int x1, .int (7 : Int32), .int (0 : Int32)]) (b := x0) (rest := []) (ci := 8) X hH rfl hf (fun _ _ e_ => c_X7_set l G x0 x1 (7 : Int32) (0 : Int32) h _ _ e_) mv_X7_set lk_RX7_73 (by decide) rfl hl.1 (Nat.le_of_ble_eq_true rfl) dX7_turn_61 (c2 := 0) (s2 := 0) (by decide) (fun _ h H locs hH hf => ?_)
  refine lv_goto (tgt := 180) hx hb dX7_turn_64 (by decide) ?_
  exact w_X7_turn_b180 l X k2 ik2 x0 x1 h H locs ls hH (lv_sub hl [0, 1] rfl) hf
set_option maxRecDepth 100000 in
set_option maxHeartbeats 4000000 in
theorem w_X7_turn_b148 {G : GE} {p : Program} (l : Launch) {e : Env} {s : State} {m : MethodId} {args : Array Value} {below : List Frame} {meth : Method} {c : Code} {rr : Unit} {hh : PH} (X : Cx G p s m args meth c cX7_turn 5 RX7 "turn" none) (k2 : Nat → Int32 → PH → Option (Unit × PH)) (ik2 : ∀ (x0 : Nat) (x1 : Int32) (h : PH) (H : Heap) (locs : List Loc) (ls : Array Slot), Hx G s h H locs → lv_has ls 5 [(0, .ref x0), (1, .int x1)] → k2 x0 x1 h = some (rr, hh) → W p l e rm_X7_turn s m args below meth c H locs 0 0 (Fq G none hh below args s rm_X7_turn.cells rm_X7_turn.slots) (F0 m 2 ls [])) (x0 : Nat) (x1 : Int32) (x4 : Int32) (h : PH) (H : Heap) (locs : List Loc) (ls : Array Slot) (hH : Hx G s h H locs) (hl : lv_has ls 5 [(0, .ref x0), (1, .int x1), (4, .int x4)]) (hf : f_X7_turn_b148 G k2 x0 x1 x4 h = some (rr, hh)) : W p l e rm_X7_turn s m args below meth c H locs 0 0 (Fq G none hh below args s rm_X7_turn.cells rm_X7_turn.slots) (F0 m 148 ls []) := by
  have hx := X.1
  have hb := X.2.1
  unfold f_X7_turn_b148 at hf
  refine lv_aload_n hx hb dX7_turn_148 rfl (lv_at hl 0 rfl) ?_
  refine lv_iload_n hx hb dX7_turn_149 rfl (lv_at hl 1 rfl) ?_
  refine lv_bipush (v := 7) hx hb dX7_turn_150 (by decide) ?_
  refine lv_iload hx hb dX7_turn_152 (lv_at hl 2 rfl) ?_
  refine p_cVV (As := [.int x1, .int (7 : Int32), .int x4]) (b := x0) (rest := []) (ci := 8) X hH rfl hf (fun _ _ e_ => c_X7_set l G x0 x1 (7 : Int32) x4 h _ _ e_) mv_X7_set lk_RX7_73 (by decide) rfl hl.1 (Nat.le_of_ble_eq_true rfl) dX7_turn_154 (c2 := 0) (s2 := 0) (by decide) (fun _ h H locs hH hf => ?_)
  refine lv_aload_n hx hb dX7_turn_157 rfl (lv_at hl 0 rfl) ?_
  refine lv_iload_n hx hb dX7_turn_158 rfl (lv_at hl 1 rfl) ?_
  refine lv_bipush (v := 6) hx hb dX7_turn_159 (by decide) ?_
  refine lv_aload_n hx hb dX7_turn_161 rfl (lv_at hl 0 rfl) ?_
  refine lv_iload_n hx hb dX7_turn_162 rfl (lv_at hl 1 rfl) ?_
  refine lv_bipush (v := 6) hx hb dX7_turn_163 (by decide) ?_
  refine p_cVI (As := [.int x1, .int (6 : Int32)]) (b := x0) (rest := [.int (6 : Int32), .int x1, .ref x0]) (ci := 8) X hH rfl hf (fun _ _ e_ => c_X7_of l G x0 x1 (6 : Int32) h _ _ e_) mv_X7_of lk_RX7_60 (by decide) rfl hl.1 (Nat.le_of_ble_eq_true rfl) dX7_turn_165 (c2 := 0) (s2 := 0) (by decide) (fun v16 h H locs hH hf => ?_)
  refine lv_iload hx hb dX7_turn_168 (lv_at hl 2 rfl) ?_
  refine lv_iadd hx hb dX7_turn_170 ?_
  refine lv_bipush (v := 16) hx hb dX7_turn_171 (by decide) ?_
  refine lv_iadd hx hb dX7_turn_173 ?_
  refine lv_bipush (v := 16) hx hb dX7_turn_174 (by decide) ?_
  refine lv_irem hx hb dX7_turn_176 (by decide) ?_
  refine p_cVV (As := [.int x1, .int (6 : Int32), .int (((v16 + x4) + (16 : Int32)) - ((v16 + x4) + (16 : Int32)) / (16 : Int32) * (16 : Int32))]) (b := x0) (rest := []) (ci := 8) X hH rfl hf (fun _ _ e_ => c_X7_set l G x0 x1 (6 : Int32) (((v16 + x4) + (16 : Int32)) - ((v16 + x4) + (16 : Int32)) / (16 : Int32) * (16 : Int32)) h _ _ e_) mv_X7_set lk_RX7_73 (by decide) rfl hl.1 (Nat.le_of_ble_eq_true rfl) dX7_turn_177 (c2 := 0) (s2 := 0) (by decide) (fun _ h H locs hH hf => ?_)
  exact w_X7_turn_b180 l X k2 ik2 x0 x1 h H locs ls hH (lv_sub hl [0, 1] rfl) hf
set_option maxRecDepth 100000 in
set_option maxHeartbeats 4000000 in
theorem w_X7_turn_b2 {G : GE} {p : Program} (l : Launch) {e : Env} {s : State} {m : MethodId} {args : Array Value} {below : List Frame} {meth : Method} {c : Code} {rr : Unit} {hh : PH} (X : Cx G p s m args meth c cX7_turn 5 RX7 "turn" none) : ∀ (n : Nat) (x0 : Nat) (x1 : Int32) (h : PH) (H : Heap) (locs : List Loc) (ls : Array Slot) (hH : Hx G s h H locs) (hl : lv_has ls 5 [(0, .ref x0), (1, .int x1)]) (hf : f_X7_turn_b2 G n x0 x1 h = some (rr, hh)), W p l e rm_X7_turn s m args below meth c H locs 0 0 (Fq G none hh below args s rm_X7_turn.cells rm_X7_turn.slots) (F0 m 2 ls []) := by
  have hx := X.1
  have hb := X.2.1
  intro n
  induction n with
  | zero =>
    intro x0 x1 h H locs ls hH hl hf
    have hf : (none : Option (Unit × PH)) = some (rr, hh) := hf
    cases hf
  | succ n ih =>
    intro x0 x1 h H locs ls hH hl hf
    have hf : f_X7_turn_b2_body G (f_X7_turn_b2 G n) x0 x1 h = some (rr, hh) := hf
    generalize f_X7_turn_b2 G n = k2 at hf ih
    have ik2 := ih
    unfold f_X7_turn_b2_body at hf
    refine lv_iload_n hx hb dX7_turn_2 rfl (lv_at hl 1 rfl) ?_
    refine lv_aload_n hx hb dX7_turn_3 rfl (lv_at hl 0 rfl) ?_
    refine p_getI X hH fg_RX7_38 hf dX7_turn_4 (fun v1 _ hf => ?_)
    refine p_icmp_ge X hf dX7_turn_7 (tgt := 186) (by decide) (fun _ hf => ?_) (fun _ hf => ?_)
    · exact p_vret X hH hf (by decide) (by decide) dX7_turn_186
    · refine lv_aload_n hx hb dX7_turn_10 rfl (lv_at hl 0 rfl) ?_
      refine lv_iload_n hx hb dX7_turn_11 rfl (lv_at hl 1 rfl) ?_
      refine p_cVI (As := [.int x1]) (b := x0) (rest := []) (ci := 8) X hH rfl hf (fun _ _ e_ => c_X7_windAt l G x0 x1 h _ _ e_) mv_X7_windAt lk_RX7_77 (by decide) rfl hl.1 (Nat.le_of_ble_eq_true rfl) dX7_turn_12 (c2 := 0) (s2 := 0) (by decide) (fun v2 h H locs hH hf => ?_)
      refine lv_istore_n (lv' := [(2, .int v2), (0, .ref x0), (1, .int x1)]) hx hb dX7_turn_15 rfl hl (by decide) rfl (fun ls hl => ?_)
      refine lv_aload_n hx hb dX7_turn_16 rfl (lv_at hl 1 rfl) ?_
      refine lv_iload_n hx hb dX7_turn_17 rfl (lv_at hl 2 rfl) ?_
      refine lv_bipush (v := 8) hx hb dX7_turn_18 (by decide) ?_
      refine p_cVI (As := [.int x1, .int (8 : Int32)]) (b := x0) (rest := []) (ci := 8) X hH rfl hf (fun _ _ e_ => c_X7_of l G x0 x1 (8 : Int32) h _ _ e_) mv_X7_of lk_RX7_60 (by decide) rfl hl.1 (Nat.le_of_ble_eq_true rfl) dX7_turn_20 (c2 := 0) (s2 := 0) (by decide) (fun v3 h H locs hH hf => ?_)
      refine p_if_gt X hf dX7_turn_23 (tgt := 36) (by decide) (fun _ hf => ?_) (fun _ hf => ?_)
      · exact w_X7_turn_b36 l X k2 ik2 x0 x1 h H locs ls hH (lv_sub hl [1, 2] rfl) hf
      · refine lv_iload_n hx hb dX7_turn_26 rfl (lv_at hl 0 rfl) ?_
        refine lv_aload_n hx hb dX7_turn_27 rfl (lv_at hl 1 rfl) ?_
        refine lv_iload_n hx hb dX7_turn_28 rfl (lv_at hl 2 rfl) ?_
        refine lv_iconst (v := 5) hx hb dX7_turn_29 (by decide) ?_
        refine p_cVI (As := [.int x1, .int (5 : Int32)]) (b := x0) (rest := [.int v2]) (ci := 8) X hH rfl hf (fun _ _ e_ => c_X7_of l G x0 x1 (5 : Int32) h _ _ e_) mv_X7_of lk_RX7_60 (by decide) rfl hl.1 (Nat.le_of_ble_eq_true rfl) dX7_turn_30 (c2 := 0) (s2 := 0) (by decide) (fun v4 h H locs hH hf => ?_)
        refine p_icmp_gt X hf dX7_turn_33 (tgt := 67) (by decide) (fun _ hf => ?_) (fun _ hf => ?_)
        · refine lv_aload_n hx hb dX7_turn_67 rfl (lv_at hl 1 rfl) ?_
          refine lv_iload_n hx hb dX7_turn_68 rfl (lv_at hl 2 rfl) ?_
          refine lv_bipush (v := 6) hx hb dX7_turn_69 (by decide) ?_
          refine p_cVI (As := [.int x1, .int (6 : Int32)]) (b := x0) (rest := []) (ci := 8) X hH rfl hf (fun _ _ e_ => c_X7_of l G x0 x1 (6 : Int32) h _ _ e_) mv_X7_of lk_RX7_60 (by decide) rfl hl.1 (Nat.le_of_ble_eq_true rfl) dX7_turn_71 (c2 := 0) (s2 := 0) (by decide) (fun v5 h H locs hH hf => ?_)
          refine lv_aload_n hx hb dX7_turn_74 rfl (lv_at hl 1 rfl) ?_
          refine p_getR X hH fg_RX7_15 hf dX7_turn_75 (fun v6 _ hf => ?_)
          refine lv_aload_n hx hb dX7_turn_78 rfl (lv_at hl 1 rfl) ?_
          refine p_cVI (As := []) (b := x0) (rest := [.ref v6, .int v5]) (ci := 8) X hH rfl hf (fun _ _ e_ => c_X7_entry l G x0 h _ _ e_) mv_X7_entry lk_RX7_56 (by decide) rfl hl.1 (Nat.le_of_ble_eq_true rfl) dX7_turn_79 (c2 := 0) (s2 := 0) (by decide) (fun v7 h H locs hH hf => ?_)
          refine p_iald X hH hf dX7_turn_82 (fun v8 _ hf => ?_)
          refine p_cSI (As := [.int v5, .int v8]) (rest := []) X hH hf (fun _ _ e_ => c_X8_apart l G v5 v8 h _ _ e_) ms_X8_apart lk_RX7_80 (by decide) rfl hl.1 (Nat.le_of_ble_eq_true rfl) dX7_turn_83 (c2 := 0) (s2 := 0) (by decide) (fun v9 h H locs hH hf => ?_)
          refine lv_istore_n (lv' := [(3, .int v9), (2, .int v2), (0, .ref x0), (1, .int x1)]) hx hb dX7_turn_86 rfl hl (by decide) rfl (fun ls hl => ?_)
          refine lv_aload_n hx hb dX7_turn_87 rfl (lv_at hl 2 rfl) ?_
          refine lv_iload_n hx hb dX7_turn_88 rfl (lv_at hl 3 rfl) ?_
          refine lv_bipush (v := 7) hx hb dX7_turn_89 (by decide) ?_
          refine p_cVI (As := [.int x1, .int (7 : Int32)]) (b := x0) (rest := []) (ci := 8) X hH rfl hf (fun _ _ e_ => c_X7_of l G x0 x1 (7 : Int32) h _ _ e_) mv_X7_of lk_RX7_60 (by decide) rfl hl.1 (Nat.le_of_ble_eq_true rfl) dX7_turn_91 (c2 := 0) (s2 := 0) (by decide) (fun v10 h H locs hH hf => ?_)
          refine lv_aload_n hx hb dX7_turn_94 rfl (lv_at hl 2 rfl) ?_
          refine lv_iload_n hx hb dX7_turn_95 rfl (lv_at hl 3 rfl) ?_
          refine lv_iconst (v := 3) hx hb dX7_turn_96 (by decide) ?_
          refine p_cVI (As := [.int x1, .int (3 : Int32)]) (b := x0) (rest := [.int v10]) (ci := 8) X hH rfl hf (fun _ _ e_ => c_X7_of l G x0 x1 (3 : Int32) h _ _ e_) mv_X7_of lk_RX7_60 (by decide) rfl hl.1 (Nat.le_of_ble_eq_true rfl) dX7_turn_97 (c2 := 0) (s2 := 0) (by decide) (fun v11 h H locs hH hf => ?_)
          refine lv_imul hx hb dX7_turn_100 ?_
          refine lv_iload_n hx hb dX7_turn_101 rfl (lv_at hl 0 rfl) ?_
          refine lv_iload_n hx hb dX7_turn_102 rfl (lv_at hl 1 rfl) ?_
          refine lv_imul hx hb dX7_turn_103 ?_
          refine lv_iadd hx hb dX7_turn_104 ?_
          refine lv_aload_n hx hb dX7_turn_105 rfl (lv_at hl 2 rfl) ?_
          refine lv_iload_n hx hb dX7_turn_106 rfl (lv_at hl 3 rfl) ?_
          refine lv_iconst (v := 3) hx hb dX7_turn_107 (by decide) ?_
          refine p_cVI (As := [.int x1, .int (3 : Int32)]) (b := x0) (rest := [.int ((v10 * v11) + (v9 * v2))]) (ci := 8) X hH rfl hf (fun _ _ e_ => c_X7_of l G x0 x1 (3 : Int32) h _ _ e_) mv_X7_of lk_RX7_60 (by decide) rfl hl.1 (Nat.le_of_ble_eq_true rfl) dX7_turn_108 (c2 := 0) (s2 := 0) (by decide) (fun v12 h H locs hH hf => ?_)
          refine lv_iconst (v := 4) hx hb dX7_turn_111 (by decide) ?_
          refine lv_iadd hx hb dX7_turn_112 ?_
          refine lv_aload_n hx hb dX7_turn_113 rfl (lv_at hl 2 rfl) ?_
          refine lv_iload_n hx hb dX7_turn_114 rfl (lv_at hl 3 rfl) ?_
          refine lv_iconst (v := 5) hx hb dX7_turn_115 (by decide) ?_
          refine p_cVI (As := [.int x1, .int (5 : Int32)]) (b := x0) (rest := [.int (v12 + (4 : Int32)), .int ((v10 * v11) + (v9 * v2))]) (ci := 8) X hH rfl hf (fun _ _ e_ => c_X7_of l G x0 x1 (5 : Int32) h _ _ e_) mv_X7_of lk_RX7_60 (by decide) rfl hl.1 (Nat.le_of_ble_eq_true rfl) dX7_turn_116 (c2 := 0) (s2 := 0) (by decide) (fun v13 h H locs hH hf => ?_)
          refine lv_iadd hx hb dX7_turn_119 ?_
          refine p_idiv X hf dX7_turn_120 (fun hf => ?_)
          refine lv_istore (lv' := [(4, .int (((v10 * v11) + (v9 * v2)) / ((v12 + (4 : Int32)) + v13))), (3, .int v9), (2, .int v2), (0, .ref x0), (1, .int x1)]) hx hb dX7_turn_121 hl (by decide) rfl (fun ls hl => ?_)
          refine lv_bipush (v := -8) hx hb dX7_turn_123 (by decide) ?_
          refine lv_bipush (v := 8) hx hb dX7_turn_125 (by decide) ?_
          refine lv_iload hx hb dX7_turn_127 (lv_at hl 0 rfl) ?_
          refine p_min X m_1047 m_181 m_39 m_182 hl.1 (by decide) (Nat.le_of_ble_eq_true rfl) (by decide) (by decide) dX7_turn_129 ?_
          refine p_max X m_985 m_148 m_39 m_149 hl.1 (by decide) (Nat.le_of_ble_eq_true rfl) (by decide) (by decide) dX7_turn_132 ?_
          refine lv_istore (lv' := [(4, .int (mxI (-8 : Int32) (mnI (8 : Int32) (((v10 * v11) + (v9 * v2)) / ((v12 + (4 : Int32)) + v13))))), (3, .int v9), (2, .int v2), (0, .ref x0), (1, .int x1)]) hx hb dX7_turn_135 hl (by decide) rfl (fun ls hl => ?_)
          refine lv_iload hx hb dX7_turn_137 (lv_at hl 0 rfl) ?_
          refine p_if_ne X hf dX7_turn_139 (tgt := 148) (by decide) (fun _ hf => ?_) (fun _ hf => ?_)
          · exact w_X7_turn_b148 l X k2 ik2 x0 x1 (mxI (-8 : Int32) (mnI (8 : Int32) (((v10 * v11) + (v9 * v2)) / ((v12 + (4 : Int32)) + v13)))) h H locs ls hH (lv_sub hl [3, 4, 0] rfl) hf
          · refine lv_iload_n hx hb dX7_turn_142 rfl (lv_at hl 1 rfl) ?_
            refine p_cSI (As := [.int v9]) (rest := []) X hH hf (fun _ _ e_ => c_J6_signum_0f7a4 l G v9 h _ _ e_) ms_J6_signum_0f7a4 lk_RX7_86 (by decide) rfl hl.1 (Nat.le_of_ble_eq_true rfl) dX7_turn_143 (c2 := 0) (s2 := 0) (by decide) (fun v14 h H locs hH hf => ?_)
            refine lv_istore (lv' := [(4, .int v14), (3, .int v9), (2, .int v2), (0, .ref x0), (1, .int x1)]) hx hb dX7_turn_146 hl (by decide) rfl (fun ls hl => ?_)
            exact w_X7_turn_b148 l X k2 ik2 x0 x1 v14 h H locs ls hH (lv_sub hl [3, 4, 0] rfl) hf
        · exact w_X7_turn_b36 l X k2 ik2 x0 x1 h H locs ls hH (lv_sub hl [1, 2] rfl) hf
set_option maxRecDepth 100000 in
set_option maxHeartbeats 4000000 in
theorem c_X7_turn (l : Launch) (G : GE) (x0 : Nat) (h : PH) (rr : Unit) (hh : PH) (hf : f_X7_turn G x0 h = some (rr, hh)) : Ct l yX7_turn cX7_turn 5 none rm_X7_turn G [.ref x0] h none hh := by
  refine Ct.of (plainFor_of_name (by decide)) (Nat.le_of_ble_eq_true rfl) ?_
  intro p e s m args below meth c ls X hH hl
  have hl : lv_has ls 5 [(0, .ref x0)] := hl
  have X : Cx G p s m args meth c cX7_turn 5 RX7 "turn" none := X
  have hx := X.1
  have hb := X.2.1
  unfold f_X7_turn at hf
  obtain ⟨H, hHe⟩ : ∃ z, z = s.heap := ⟨_, rfl⟩
  obtain ⟨locs, hLe⟩ : ∃ z, z = ([] : List Loc) := ⟨_, rfl⟩
  rw [← hHe, ← hLe] at hH
  rw [← hHe, ← hLe]
  refine lv_iconst (v := 0) hx hb dX7_turn_0 (by decide) ?_
  refine lv_istore_n (lv' := [(1, .int (0 : Int32)), (0, .ref x0)]) hx hb dX7_turn_1 rfl hl (by decide) rfl (fun ls hl => ?_)
  exact w_X7_turn_b2 l X LF x0 (0 : Int32) h H locs ls hH (lv_sub hl [1, 0] rfl) hf
set_option maxRecDepth 100000 in
set_option maxHeartbeats 4000000 in
theorem w_X7_stand_b62 {G : GE} {p : Program} (l : Launch) {e : Env} {s : State} {m : MethodId} {args : Array Value} {below : List Frame} {meth : Method} {c : Code} {rr : Int32} {hh : PH} (X : Cx G p s m args meth c cX7_stand 5 RX7 "stand" (some .int)) (t0 : Int32) (h : PH) (H : Heap) (locs : List Loc) (ls : Array Slot) (hH : Hx G s h H locs) (hl : lv_has ls 5 []) (hf : f_X7_stand_b62 G t0 h = some (rr, hh)) : W p l e rm_X7_stand s m args below meth c H locs 0 0 (Fq G (some (.int rr)) hh below args s rm_X7_stand.cells rm_X7_stand.slots) (F0 m 62 ls [.int t0]) := by
  have hx := X.1
  have hb := X.2.1
  unfold f_X7_stand_b62 at hf
  exact p_iret X hH hf (by decide) (by decide) dX7_stand_62
set_option maxRecDepth 100000 in
set_option maxHeartbeats 4000000 in
theorem c_X7_stand (l : Launch) (G : GE) (x0 : Nat) (x1 : Int32) (x2 : Int32) (h : PH) (rr : Int32) (hh : PH) (hf : f_X7_stand G x0 x1 x2 h = some (rr, hh)) : Ct l yX7_stand cX7_stand 5 (some .int) rm_X7_stand G [.ref x0, .int x1, .int x2] h (some (.int rr)) hh := by
  refine Ct.of (plainFor_of_name (by decide)) (Nat.le_of_ble_eq_true rfl) ?_
  intro p e s m args below meth c ls X hH hl
  have hl : lv_has ls 5 [(0, .ref x0), (1, .int x1), (2, .int x2)] := hl
  have X : Cx G p s m args meth c cX7_stand 5 RX7 "stand" (some .int) := X
  have hx := X.1
  have hb := X.2.1
  unfold f_X7_stand at hf
  obtain ⟨H, hHe⟩ : ∃ z, z = s.heap := ⟨_, rfl⟩
  obtain ⟨locs, hLe⟩ : ∃ z, z = ([] : List Loc) := ⟨_, rfl⟩
  rw [← hHe, ← hLe] at hH
  rw [← hHe, ← hLe]
  refine lv_aload_n hx hb dX7_stand_0 rfl (lv_at hl 0 rfl) ?_
  refine lv_iload_n hx hb dX7_stand_1 rfl (lv_at hl 2 rfl) ?_
  refine lv_bipush (v := 6) hx hb dX7_stand_2 (by decide) ?_
  refine p_cVI (As := [.int x2, .int (6 : Int32)]) (b := x0) (rest := []) (ci := 8) X hH rfl hf (fun _ _ e_ => c_X7_of l G x0 x2 (6 : Int32) h _ _ e_) mv_X7_of lk_RX7_60 (by decide) rfl hl.1 (Nat.le_of_ble_eq_true rfl) dX7_stand_4 (c2 := 0) (s2 := 0) (by decide) (fun v1 h H locs hH hf => ?_)
  refine lv_aload_n hx hb dX7_stand_7 rfl (lv_at hl 0 rfl) ?_
  refine p_getR X hH fg_RX7_29 hf dX7_stand_8 (fun v2 _ hf => ?_)
  refine lv_bipush (v := 6) hx hb dX7_stand_11 (by decide) ?_
  refine lv_iload_n hx hb dX7_stand_13 rfl (lv_at hl 1 rfl) ?_
  refine lv_imul hx hb dX7_stand_14 ?_
  refine p_iald X hH hf dX7_stand_15 (fun v3 _ hf => ?_)
  refine p_cSI (As := [.int v1, .int v3]) (rest := []) X hH hf (fun _ _ e_ => c_X8_apart l G v1 v3 h _ _ e_) ms_X8_apart lk_RX7_80 (by decide) rfl hl.1 (Nat.le_of_ble_eq_true rfl) dX7_stand_16 (c2 := 0) (s2 := 0) (by decide) (fun v4 h H locs hH hf => ?_)
  refine p_abs X m_1023 m_273 m_39 m_274 hl.1 (by decide) (Nat.le_of_ble_eq_true rfl) (by decide) (by decide) dX7_stand_19 ?_
  refine lv_istore_n (lv' := [(3, .int (abI v4)), (0, .ref x0), (1, .int x1), (2, .int x2)]) hx hb dX7_stand_22 rfl hl (by decide) rfl (fun ls hl => ?_)
  refine lv_aload_n hx hb dX7_stand_23 rfl (lv_at hl 1 rfl) ?_
  refine p_getR X hH fg_RX7_29 hf dX7_stand_24 (fun v5 _ hf => ?_)
  refine lv_bipush (v := 6) hx hb dX7_stand_27 (by decide) ?_
  refine lv_iload_n hx hb dX7_stand_29 rfl (lv_at hl 2 rfl) ?_
  refine lv_imul hx hb dX7_stand_30 ?_
  refine lv_iconst (v := 1) hx hb dX7_stand_31 (by decide) ?_
  refine lv_iadd hx hb dX7_stand_32 ?_
  refine p_iald X hH hf dX7_stand_33 (fun v6 _ hf => ?_)
  refine lv_istore (lv' := [(4, .int v6), (3, .int (abI v4)), (0, .ref x0), (1, .int x1), (2, .int x2)]) hx hb dX7_stand_34 hl (by decide) rfl (fun ls hl => ?_)
  refine lv_iload_n hx hb dX7_stand_36 rfl (lv_at hl 1 rfl) ?_
  refine lv_iload hx hb dX7_stand_37 (lv_at hl 0 rfl) ?_
  refine p_icmp_gt X hf dX7_stand_39 (tgt := 46) (by decide) (fun _ hf => ?_) (fun _ hf => ?_)
  · refine lv_iload_n hx hb dX7_stand_46 rfl (lv_at hl 1 rfl) ?_
    refine lv_bipush (v := 8) hx hb dX7_stand_47 (by decide) ?_
    refine lv_iload hx hb dX7_stand_49 (lv_at hl 0 rfl) ?_
    refine lv_iconst (v := 2) hx hb dX7_stand_51 (by decide) ?_
    refine lv_idiv hx hb dX7_stand_52 (by decide) ?_
    refine lv_isub hx hb dX7_stand_53 ?_
    refine p_icmp_lt X hf dX7_stand_54 (tgt := 61) (by decide) (fun _ hf => ?_) (fun _ hf => ?_)
    · refine lv_iconst (v := 0) hx hb dX7_stand_61 (by decide) ?_
      exact w_X7_stand_b62 l X (0 : Int32) h H locs ls hH (lv_sub hl [] rfl) hf
    · refine lv_iconst (v := -1) hx hb dX7_stand_57 (by decide) ?_
      refine lv_goto (tgt := 62) hx hb dX7_stand_58 (by decide) ?_
      exact w_X7_stand_b62 l X (-1 : Int32) h H locs ls hH (lv_sub hl [] rfl) hf
  · refine lv_iconst (v := 1) hx hb dX7_stand_42 (by decide) ?_
    refine lv_goto (tgt := 62) hx hb dX7_stand_43 (by decide) ?_
    exact w_X7_stand_b62 l X (1 : Int32) h H locs ls hH (lv_sub hl [] rfl) hf
set_option maxRecDepth 100000 in
set_option maxHeartbeats 4000000 in
theorem w_X7_votes_b37 {G : GE} {p : Program} (l : Launch) {e : Env} {s : State} {m : MethodId} {args : Array Value} {below : List Frame} {meth : Method} {c : Code} {rr : Int32} {hh : PH} (X : Cx G p s m args meth c cX7_votes 5 RX7 "votes" (some .int)) (k5 : Nat → Int32 → Int32 → Int32 → Int32 → PH → Option (Int32 × PH)) (ik5 : ∀ (x0 : Nat) (x1 : Int32) (x2 : Int32) (x3 : Int32) (x4 : Int32) (h : PH) (H : Heap) (locs : List Loc) (ls : Array Slot), Hx G s h H locs → lv_has ls 5 [(0, .ref x0), (1, .int x1), (2, .int x2), (3, .int x3), (4, .int x4)] → k5 x0 x1 x2 x3 x4 h = some (rr, hh) → W p l e rm_X7_votes s m args below meth c H locs 0 0 (Fq G (some (.int rr)) hh below args s rm_X7_votes.cells rm_X7_votes.slots) (F0 m 5 ls [])) (x0 : Nat) (x1 : Int32) (x2 : Int32) (x4 : Int32) (t0 : Int32) (t1 : Int32) (h : PH) (H : Heap) (locs : List Loc) (ls : Array Slot) (hH : Hx G s h H locs) (hl : lv_has ls 5 [(0, .ref x0), (1, .int x1), (2, .int x2), (4, .int x4)]) (hf : f_X7_votes_b37 G k5 x0 x1 x2 x4 t0 t1 h = some (rr, hh)) : W p l e rm_X7_votes s m args below meth c H locs 0 0 (Fq G (some (.int rr)) hh below args s rm_X7_votes.cells rm_X7_votes.slots) (F0 m 37 ls [.int t1, .int t0]) := by
  have hx := X.1
  have hb := X.2.1
  unfold f_X7_votes_b37 at hf
  refine lv_iadd hx hb dX7_votes_37 ?_
  refine lv_istore_n (lv' := [(3, .int (t0 + t1)), (0, .ref x0), (1, .int x1), (2, .int x2), (4, .int x4)]) hx hb dX7_votes_38 rfl hl (by decide) rfl (fun ls hl => ?_)
  refine lv_iinc (v := (x4 + (1 : Int32))) (lv' := [(4, .int (x4 + (1 : Int32))), (3, .int (t0 + t1)), (0, .ref x0), (1, .int x1), (2, .int x2)]) hx hb dX7_votes_39 hl (k := 4) rfl rfl (by decide) rfl (fun ls hl => ?_)
  refine lv_goto (tgt := 5) hx hb dX7_votes_42 (by decide) ?_
  exact ik5 x0 x1 x2 (t0 + t1) (x4 + (1 : Int32)) h H locs ls hH (lv_sub hl [2, 3, 4, 1, 0] rfl) hf
set_option maxRecDepth 100000 in
set_option maxHeartbeats 4000000 in
theorem w_X7_votes_b5 {G : GE} {p : Program} (l : Launch) {e : Env} {s : State} {m : MethodId} {args : Array Value} {below : List Frame} {meth : Method} {c : Code} {rr : Int32} {hh : PH} (X : Cx G p s m args meth c cX7_votes 5 RX7 "votes" (some .int)) : ∀ (n : Nat) (x0 : Nat) (x1 : Int32) (x2 : Int32) (x3 : Int32) (x4 : Int32) (h : PH) (H : Heap) (locs : List Loc) (ls : Array Slot) (hH : Hx G s h H locs) (hl : lv_has ls 5 [(0, .ref x0), (1, .int x1), (2, .int x2), (3, .int x3), (4, .int x4)]) (hf : f_X7_votes_b5 G n x0 x1 x2 x3 x4 h = some (rr, hh)), W p l e rm_X7_votes s m args below meth c H locs 0 0 (Fq G (some (.int rr)) hh below args s rm_X7_votes.cells rm_X7_votes.slots) (F0 m 5 ls []) := by
  have hx := X.1
  have hb := X.2.1
  intro n
  induction n with
  | zero =>
    intro x0 x1 x2 x3 x4 h H locs ls hH hl hf
    have hf : (none : Option (Int32 × PH)) = some (rr, hh) := hf
    cases hf
  | succ n ih =>
    intro x0 x1 x2 x3 x4 h H locs ls hH hl hf
    have hf : f_X7_votes_b5_body G (f_X7_votes_b5 G n) x0 x1 x2 x3 x4 h = some (rr, hh) := hf
    generalize f_X7_votes_b5 G n = k5 at hf ih
    have ik5 := ih
    unfold f_X7_votes_b5_body at hf
    refine lv_iload hx hb dX7_votes_5 (lv_at hl 4 rfl) ?_
    refine lv_aload_n hx hb dX7_votes_7 rfl (lv_at hl 0 rfl) ?_
    refine p_getI X hH fg_RX7_38 hf dX7_votes_8 (fun v1 _ hf => ?_)
    refine p_icmp_ge X hf dX7_votes_11 (tgt := 45) (by decide) (fun _ hf => ?_) (fun _ hf => ?_)
    · refine lv_iload_n hx hb dX7_votes_45 rfl (lv_at hl 3 rfl) ?_
      exact p_iret X hH hf (by decide) (by decide) dX7_votes_46
    · refine lv_iload_n hx hb dX7_votes_14 rfl (lv_at hl 3 rfl) ?_
      refine lv_aload_n hx hb dX7_votes_15 rfl (lv_at hl 0 rfl) ?_
      refine lv_iload_n hx hb dX7_votes_16 rfl (lv_at hl 1 rfl) ?_
      refine lv_iload hx hb dX7_votes_17 (lv_at hl 4 rfl) ?_
      refine p_cVI (As := [.int x1, .int x4]) (b := x0) (rest := [.int x3]) (ci := 8) X hH rfl hf (fun _ _ e_ => c_X7_stand l G x0 x1 x4 h _ _ e_) mv_X7_stand lk_RX7_97 (by decide) rfl hl.1 (Nat.le_of_ble_eq_true rfl) dX7_votes_19 (c2 := 0) (s2 := 0) (by decide) (fun v2 h H locs hH hf => ?_)
      refine lv_iload_n hx hb dX7_votes_22 rfl (lv_at hl 2 rfl) ?_
      refine p_icmp_ne X hf dX7_votes_23 (tgt := 36) (by decide) (fun _ hf => ?_) (fun _ hf => ?_)
      · refine lv_iconst (v := 0) hx hb dX7_votes_36 (by decide) ?_
        exact w_X7_votes_b37 l X k5 ik5 x0 x1 x2 x4 x3 (0 : Int32) h H locs ls hH (lv_sub hl [0, 1, 2, 4] rfl) hf
      · refine lv_aload_n hx hb dX7_votes_26 rfl (lv_at hl 0 rfl) ?_
        refine lv_iload hx hb dX7_votes_27 (lv_at hl 4 rfl) ?_
        refine lv_iconst (v := 4) hx hb dX7_votes_29 (by decide) ?_
        refine p_cVI (As := [.int x4, .int (4 : Int32)]) (b := x0) (rest := [.int x3]) (ci := 8) X hH rfl hf (fun _ _ e_ => c_X7_of l G x0 x4 (4 : Int32) h _ _ e_) mv_X7_of lk_RX7_60 (by decide) rfl hl.1 (Nat.le_of_ble_eq_true rfl) dX7_votes_30 (c2 := 0) (s2 := 0) (by decide) (fun v3 h H locs hH hf => ?_)
        refine lv_goto (tgt := 37) hx hb dX7_votes_33 (by decide) ?_
        exact w_X7_votes_b37 l X k5 ik5 x0 x1 x2 x4 x3 v3 h H locs ls hH (lv_sub hl [0, 1, 2, 4] rfl) hf
set_option maxRecDepth 100000 in
set_option maxHeartbeats 4000000 in
theorem c_X7_votes (l : Launch) (G : GE) (x0 : Nat) (x1 : Int32) (x2 : Int32) (h : PH) (rr : Int32) (hh : PH) (hf : f_X7_votes G x0 x1 x2 h = some (rr, hh)) : Ct l yX7_votes cX7_votes 5 (some .int) rm_X7_votes G [.ref x0, .int x1, .int x2] h (some (.int rr)) hh := by
  refine Ct.of (plainFor_of_name (by decide)) (Nat.le_of_ble_eq_true rfl) ?_
  intro p e s m args below meth c ls X hH hl
  have hl : lv_has ls 5 [(0, .ref x0), (1, .int x1), (2, .int x2)] := hl
  have X : Cx G p s m args meth c cX7_votes 5 RX7 "votes" (some .int) := X
  have hx := X.1
  have hb := X.2.1
  unfold f_X7_votes at hf
  obtain ⟨H, hHe⟩ : ∃ z, z = s.heap := ⟨_, rfl⟩
  obtain ⟨locs, hLe⟩ : ∃ z, z = ([] : List Loc) := ⟨_, rfl⟩
  rw [← hHe, ← hLe] at hH
  rw [← hHe, ← hLe]
  refine lv_iconst (v := 0) hx hb dX7_votes_0 (by decide) ?_
  refine lv_istore_n (lv' := [(3, .int (0 : Int32)), (0, .ref x0), (1, .int x1), (2, .int x2)]) hx hb dX7_votes_1 rfl hl (by decide) rfl (fun ls hl => ?_)
  refine lv_iconst (v := 0) hx hb dX7_votes_2 (by decide) ?_
  refine lv_istore (lv' := [(4, .int (0 : Int32)), (3, .int (0 : Int32)), (0, .ref x0), (1, .int x1), (2, .int x2)]) hx hb dX7_votes_3 hl (by decide) rfl (fun ls hl => ?_)
  exact w_X7_votes_b5 l X LF x0 x1 x2 (0 : Int32) (0 : Int32) h H locs ls hH (lv_sub hl [2, 3, 4, 1, 0] rfl) hf
set_option maxRecDepth 100000 in
set_option maxHeartbeats 4000000 in
theorem w_X7_would_b47 {G : GE} {p : Program} (l : Launch) {e : Env} {s : State} {m : MethodId} {args : Array Value} {below : List Frame} {meth : Method} {c : Code} {rr : Int32} {hh : PH} (X : Cx G p s m args meth c cX7_would 2 RX7 "would" (some .boolean)) (t0 : Int32) (h : PH) (H : Heap) (locs : List Loc) (ls : Array Slot) (hH : Hx G s h H locs) (hl : lv_has ls 2 []) (hf : f_X7_would_b47 G t0 h = some (rr, hh)) : W p l e rm_X7_would s m args below meth c H locs 0 0 (Fq G (some (.int rr)) hh below args s rm_X7_would.cells rm_X7_would.slots) (F0 m 47 ls [.int t0]) := by
  have hx := X.1
  have hb := X.2.1
  unfold f_X7_would_b47 at hf
  exact p_zret X hH hf (by decide) (by decide) dX7_would_47
set_option maxRecDepth 100000 in
set_option maxHeartbeats 4000000 in
theorem w_X7_would_b46 {G : GE} {p : Program} (l : Launch) {e : Env} {s : State} {m : MethodId} {args : Array Value} {below : List Frame} {meth : Method} {c : Code} {rr : Int32} {hh : PH} (X : Cx G p s m args meth c cX7_would 2 RX7 "would" (some .boolean))  (h : PH) (H : Heap) (locs : List Loc) (ls : Array Slot) (hH : Hx G s h H locs) (hl : lv_has ls 2 []) (hf : f_X7_would_b46 G  h = some (rr, hh)) : W p l e rm_X7_would s m args below meth c H locs 0 0 (Fq G (some (.int rr)) hh below args s rm_X7_would.cells rm_X7_would.slots) (F0 m 46 ls []) := by
  have hx := X.1
  have hb := X.2.1
  unfold f_X7_would_b46 at hf
  refine lv_iconst (v := 0) hx hb dX7_would_46 (by decide) ?_
  exact w_X7_would_b47 l X (0 : Int32) h H locs ls hH (lv_sub hl [] rfl) hf
set_option maxRecDepth 100000 in
set_option maxHeartbeats 4000000 in
theorem c_X7_would (l : Launch) (G : GE) (x0 : Nat) (x1 : Int32) (h : PH) (rr : Int32) (hh : PH) (hf : f_X7_would G x0 x1 h = some (rr, hh)) : Ct l yX7_would cX7_would 2 (some .boolean) rm_X7_would G [.ref x0, .int x1] h (some (.int rr)) hh := by
  refine Ct.of (plainFor_of_name (by decide)) (Nat.le_of_ble_eq_true rfl) ?_
  intro p e s m args below meth c ls X hH hl
  have hl : lv_has ls 2 [(0, .ref x0), (1, .int x1)] := hl
  have X : Cx G p s m args meth c cX7_would 2 RX7 "would" (some .boolean) := X
  have hx := X.1
  have hb := X.2.1
  unfold f_X7_would at hf
  obtain ⟨H, hHe⟩ : ∃ z, z = s.heap := ⟨_, rfl⟩
  obtain ⟨locs, hLe⟩ : ∃ z, z = ([] : List Loc) := ⟨_, rfl⟩
  rw [← hHe, ← hLe] at hH
  rw [← hHe, ← hLe]
  refine lv_aload_n hx hb dX7_would_0 rfl (lv_at hl 0 rfl) ?_
  refine lv_iload_n hx hb dX7_would_1 rfl (lv_at hl 1 rfl) ?_
  refine lv_iconst (v := 1) hx hb dX7_would_2 (by decide) ?_
  refine p_cVI (As := [.int x1, .int (1 : Int32)]) (b := x0) (rest := []) (ci := 8) X hH rfl hf (fun _ _ e_ => c_X7_votes l G x0 x1 (1 : Int32) h _ _ e_) mv_X7_votes lk_RX7_100 (by decide) rfl hl.1 (Nat.le_of_ble_eq_true rfl) dX7_would_3 (c2 := 0) (s2 := 0) (by decide) (fun v1 h H locs hH hf => ?_)
  refine lv_aload_n hx hb dX7_would_6 rfl (lv_at hl 0 rfl) ?_
  refine lv_iload_n hx hb dX7_would_7 rfl (lv_at hl 1 rfl) ?_
  refine lv_iconst (v := -1) hx hb dX7_would_8 (by decide) ?_
  refine p_cVI (As := [.int x1, .int (-1 : Int32)]) (b := x0) (rest := [.int v1]) (ci := 8) X hH rfl hf (fun _ _ e_ => c_X7_votes l G x0 x1 (-1 : Int32) h _ _ e_) mv_X7_votes lk_RX7_100 (by decide) rfl hl.1 (Nat.le_of_ble_eq_true rfl) dX7_would_9 (c2 := 0) (s2 := 0) (by decide) (fun v2 h H locs hH hf => ?_)
  refine lv_iadd hx hb dX7_would_12 ?_
  refine lv_aload_n hx hb dX7_would_13 rfl (lv_at hl 0 rfl) ?_
  refine p_getR X hH fg_RX7_29 hf dX7_would_14 (fun v3 _ hf => ?_)
  refine lv_bipush (v := 6) hx hb dX7_would_17 (by decide) ?_
  refine lv_iload_n hx hb dX7_would_19 rfl (lv_at hl 1 rfl) ?_
  refine lv_imul hx hb dX7_would_20 ?_
  refine lv_iconst (v := 2) hx hb dX7_would_21 (by decide) ?_
  refine lv_iadd hx hb dX7_would_22 ?_
  refine p_iald X hH hf dX7_would_23 (fun v4 _ hf => ?_)
  refine p_icmp_lt X hf dX7_would_24 (tgt := 46) (by decide) (fun _ hf => ?_) (fun _ hf => ?_)
  · exact w_X7_would_b46 l X  h H locs ls hH (lv_sub hl [] rfl) hf
  · refine lv_aload_n hx hb dX7_would_27 rfl (lv_at hl 0 rfl) ?_
    refine lv_iload_n hx hb dX7_would_28 rfl (lv_at hl 1 rfl) ?_
    refine lv_iconst (v := 1) hx hb dX7_would_29 (by decide) ?_
    refine p_cVI (As := [.int x1, .int (1 : Int32)]) (b := x0) (rest := []) (ci := 8) X hH rfl hf (fun _ _ e_ => c_X7_votes l G x0 x1 (1 : Int32) h _ _ e_) mv_X7_votes lk_RX7_100 (by decide) rfl hl.1 (Nat.le_of_ble_eq_true rfl) dX7_would_30 (c2 := 0) (s2 := 0) (by decide) (fun v5 h H locs hH hf => ?_)
    refine lv_aload_n hx hb dX7_would_33 rfl (lv_at hl 0 rfl) ?_
    refine lv_iload_n hx hb dX7_would_34 rfl (lv_at hl 1 rfl) ?_
    refine lv_iconst (v := -1) hx hb dX7_would_35 (by decide) ?_
    refine p_cVI (As := [.int x1, .int (-1 : Int32)]) (b := x0) (rest := [.int v5]) (ci := 8) X hH rfl hf (fun _ _ e_ => c_X7_votes l G x0 x1 (-1 : Int32) h _ _ e_) mv_X7_votes lk_RX7_100 (by decide) rfl hl.1 (Nat.le_of_ble_eq_true rfl) dX7_would_36 (c2 := 0) (s2 := 0) (by decide) (fun v6 h H locs hH hf => ?_)
    refine p_icmp_le X hf dX7_would_39 (tgt := 46) (by decide) (fun _ hf => ?_) (fun _ hf => ?_)
    · exact w_X7_would_b46 l X  h H locs ls hH (lv_sub hl [] rfl) hf
    · refine lv_iconst (v := 1) hx hb dX7_would_42 (by decide) ?_
      refine lv_goto (tgt := 47) hx hb dX7_would_43 (by decide) ?_
      exact w_X7_would_b47 l X (1 : Int32) h H locs ls hH (lv_sub hl [] rfl) hf
set_option maxRecDepth 100000 in
set_option maxHeartbeats 4000000 in
theorem w_X7_vote_b144 {G : GE} {p : Program} (l : Launch) {e : Env} {s : State} {m : MethodId} {args : Array Value} {below : List Frame} {meth : Method} {c : Code} {rr : Int32} {hh : PH} (X : Cx G p s m args meth c cX7_vote 5 RX7 "vote" (some .int)) (k54 : Nat → Int32 → Int32 → Int32 → PH → Option (Int32 × PH)) (ik54 : ∀ (x0 : Nat) (x1 : Int32) (x2 : Int32) (x3 : Int32) (h : PH) (H : Heap) (locs : List Loc) (ls : Array Slot), Hx G s h H locs → lv_has ls 5 [(0, .ref x0), (1, .int x1), (2, .int x2), (3, .int x3)] → k54 x0 x1 x2 x3 h = some (rr, hh) → W p l e rm_X7_vote s m args below meth c H locs 0 0 (Fq G (some (.int rr)) hh below args s rm_X7_vote.cells rm_X7_vote.slots) (F0 m 54 ls [])) (x0 : Nat) (x1 : Int32) (x2 : Int32) (x3 : Int32) (h : PH) (H : Heap) (locs : List Loc) (ls : Array Slot) (hH : Hx G s h H locs) (hl : lv_has ls 5 [(0, .ref x0), (1, .int x1), (2, .int x2), (3, .int x3)]) (hf : f_X7_vote_b144 G k54 x0 x1 x2 x3 h = some (rr, hh)) : W p l e rm_X7_vote s m args below meth c H locs 0 0 (Fq G (some (.int rr)) hh below args s rm_X7_vote.cells rm_X7_vote.slots) (F0 m 144 ls []) := by
  have hx := X.1
  have hb := X.2.1
  unfold f_X7_vote_b144 at hf
  refine lv_iinc (v := (x3 + (1 : Int32))) (lv' := [(3, .int (x3 + (1 : Int32))), (0, .ref x0), (1, .int x1), (2, .int x2)]) hx hb dX7_vote_144 hl (k := 3) rfl rfl (by decide) rfl (fun ls hl => ?_)
  refine lv_goto (tgt := 54) hx hb dX7_vote_147 (by decide) ?_
  exact ik54 x0 x1 x2 (x3 + (1 : Int32)) h H locs ls hH (lv_sub hl [1, 2, 3, 0] rfl) hf
set_option maxRecDepth 100000 in
set_option maxHeartbeats 4000000 in
theorem w_X7_vote_b115 {G : GE} {p : Program} (l : Launch) {e : Env} {s : State} {m : MethodId} {args : Array Value} {below : List Frame} {meth : Method} {c : Code} {rr : Int32} {hh : PH} (X : Cx G p s m args meth c cX7_vote 5 RX7 "vote" (some .int)) (k54 : Nat → Int32 → Int32 → Int32 → PH → Option (Int32 × PH)) (ik54 : ∀ (x0 : Nat) (x1 : Int32) (x2 : Int32) (x3 : Int32) (h : PH) (H : Heap) (locs : List Loc) (ls : Array Slot), Hx G s h H locs → lv_has ls 5 [(0, .ref x0), (1, .int x1), (2, .int x2), (3, .int x3)] → k54 x0 x1 x2 x3 h = some (rr, hh) → W p l e rm_X7_vote s m args below meth c H locs 0 0 (Fq G (some (.int rr)) hh below args s rm_X7_vote.cells rm_X7_vote.slots) (F0 m 54 ls [])) (x0 : Nat) (x1 : Int32) (x2 : Int32) (x3 : Int32) (x4 : Int32) (h : PH) (H : Heap) (locs : List Loc) (ls : Array Slot) (hH : Hx G s h H locs) (hl : lv_has ls 5 [(0, .ref x0), (1, .int x1), (2, .int x2), (3, .int x3), (4, .int x4)]) (hf : f_X7_vote_b115 G k54 x0 x1 x2 x3 x4 h = some (rr, hh)) : W p l e rm_X7_vote s m args below meth c H locs 0 0 (Fq G (some (.int rr)) hh below args s rm_X7_vote.cells rm_X7_vote.slots) (F0 m 115 ls []) := by
  have hx := X.1
  have hb := X.2.1
  unfold f_X7_vote_b115 at hf
  refine lv_iload_n hx hb dX7_vote_115 rfl (lv_at hl 2 rfl) ?_
  refine lv_iconst (v := 3) hx hb dX7_vote_116 (by decide) ?_
  refine p_icmp_ne X hf dX7_vote_117 (tgt := 144) (by decide) (fun _ hf => ?_) (fun _ hf => ?_)
  · exact w_X7_vote_b144 l X k54 ik54 x0 x1 x2 x3 h H locs ls hH (lv_sub hl [0, 1, 2, 3] rfl) hf
  · refine lv_aload_n hx hb dX7_vote_120 rfl (lv_at hl 0 rfl) ?_
    refine lv_iload_n hx hb dX7_vote_121 rfl (lv_at hl 3 rfl) ?_
    refine lv_iconst (v := 4) hx hb dX7_vote_122 (by decide) ?_
    refine lv_iconst (v := 0) hx hb dX7_vote_123 (by decide) ?_
    refine lv_bipush (v := 9) hx hb dX7_vote_124 (by decide) ?_
    refine lv_aload_n hx hb dX7_vote_126 rfl (lv_at hl 0 rfl) ?_
    refine lv_iload_n hx hb dX7_vote_127 rfl (lv_at hl 3 rfl) ?_
    refine lv_iconst (v := 4) hx hb dX7_vote_128 (by decide) ?_
    refine p_cVI (As := [.int x3, .int (4 : Int32)]) (b := x0) (rest := [.int (9 : Int32), .int (0 : Int32), .int (4 : Int32), .int x3, .ref x0]) (ci := 8) X hH rfl hf (fun _ _ e_ => c_X7_of l G x0 x3 (4 : Int32) h _ _ e_) mv_X7_of lk_RX7_60 (by decide) rfl hl.1 (Nat.le_of_ble_eq_true rfl) dX7_vote_129 (c2 := 0) (s2 := 0) (by decide) (fun v11 h H locs hH hf => ?_)
    refine lv_iload hx hb dX7_vote_132 (lv_at hl 4 rfl) ?_
    refine lv_iadd hx hb dX7_vote_134 ?_
    refine p_min X m_1047 m_181 m_39 m_182 hl.1 (by decide) (Nat.le_of_ble_eq_true rfl) (by decide) (by decide) dX7_vote_135 ?_
    refine p_max X m_985 m_148 m_39 m_149 hl.1 (by decide) (Nat.le_of_ble_eq_true rfl) (by decide) (by decide) dX7_vote_138 ?_
    refine p_cVV (As := [.int x3, .int (4 : Int32), .int (mxI (0 : Int32) (mnI (9 : Int32) (v11 + x4)))]) (b := x0) (rest := []) (ci := 8) X hH rfl hf (fun _ _ e_ => c_X7_set l G x0 x3 (4 : Int32) (mxI (0 : Int32) (mnI (9 : Int32) (v11 + x4))) h _ _ e_) mv_X7_set lk_RX7_73 (by decide) rfl hl.1 (Nat.le_of_ble_eq_true rfl) dX7_vote_141 (c2 := 0) (s2 := 0) (by decide) (fun _ h H locs hH hf => ?_)
    exact w_X7_vote_b144 l X k54 ik54 x0 x1 x2 x3 h H locs ls hH (lv_sub hl [0, 1, 2, 3] rfl) hf
set_option maxRecDepth 100000 in
set_option maxHeartbeats 4000000 in
theorem w_X7_vote_b86 {G : GE} {p : Program} (l : Launch) {e : Env} {s : State} {m : MethodId} {args : Array Value} {below : List Frame} {meth : Method} {c : Code} {rr : Int32} {hh : PH} (X : Cx G p s m args meth c cX7_vote 5 RX7 "vote" (some .int)) (k54 : Nat → Int32 → Int32 → Int32 → PH → Option (Int32 × PH)) (ik54 : ∀ (x0 : Nat) (x1 : Int32) (x2 : Int32) (x3 : Int32) (h : PH) (H : Heap) (locs : List Loc) (ls : Array Slot), Hx G s h H locs → lv_has ls 5 [(0, .ref x0), (1, .int x1), (2, .int x2), (3, .int x3)] → k54 x0 x1 x2 x3 h = some (rr, hh) → W p l e rm_X7_vote s m args below meth c H locs 0 0 (Fq G (some (.int rr)) hh below args s rm_X7_vote.cells rm_X7_vote.slots) (F0 m 54 ls [])) (x0 : Nat) (x1 : Int32) (x2 : Int32) (x3 : Int32) (x4 : Int32) (h : PH) (H : Heap) (locs : List Loc) (ls : Array Slot) (hH : Hx G s h H locs) (hl : lv_has ls 5 [(0, .ref x0), (1, .int x1), (2, .int x2), (3, .int x3), (4, .int x4)]) (hf : f_X7_vote_b86 G k54 x0 x1 x2 x3 x4 h = some (rr, hh)) : W p l e rm_X7_vote s m args below meth c H locs 0 0 (Fq G (some (.int rr)) hh below args s rm_X7_vote.cells rm_X7_vote.slots) (F0 m 86 ls []) := by
  have hx := X.1
  have hb := X.2.1
  unfold f_X7_vote_b86 at hf
  refine lv_iload_n hx hb dX7_vote_86 rfl (lv_at hl 2 rfl) ?_
  refine lv_iconst (v := 2) hx hb dX7_vote_87 (by decide) ?_
  refine p_icmp_ne X hf dX7_vote_88 (tgt := 115) (by decide) (fun _ hf => ?_) (fun _ hf => ?_)
  · exact w_X7_vote_b115 l X k54 ik54 x0 x1 x2 x3 x4 h H locs ls hH (lv_sub hl [0, 1, 2, 3, 4] rfl) hf
  · refine lv_iload hx hb dX7_vote_91 (lv_at hl 4 rfl) ?_
    refine lv_iconst (v := -1) hx hb dX7_vote_93 (by decide) ?_
    refine p_icmp_ne X hf dX7_vote_94 (tgt := 115) (by decide) (fun _ hf => ?_) (fun _ hf => ?_)
    · exact w_X7_vote_b115 l X k54 ik54 x0 x1 x2 x3 x4 h H locs ls hH (lv_sub hl [0, 1, 2, 3, 4] rfl) hf
    · refine lv_aload_n hx hb dX7_vote_97 rfl (lv_at hl 0 rfl) ?_
      refine lv_iload_n hx hb dX7_vote_98 rfl (lv_at hl 3 rfl) ?_
      refine lv_bipush (v := 8) hx hb dX7_vote_99 (by decide) ?_
      refine lv_iconst (v := 4) hx hb dX7_vote_101 (by decide) ?_
      refine lv_aload_n hx hb dX7_vote_102 rfl (lv_at hl 0 rfl) ?_
      refine lv_iload_n hx hb dX7_vote_103 rfl (lv_at hl 3 rfl) ?_
      refine lv_bipush (v := 8) hx hb dX7_vote_104 (by decide) ?_
      refine p_cVI (As := [.int x3, .int (8 : Int32)]) (b := x0) (rest := [.int (4 : Int32), .int (8 : Int32), .int x3, .ref x0]) (ci := 8) X hH rfl hf (fun _ _ e_ => c_X7_of l G x0 x3 (8 : Int32) h _ _ e_) mv_X7_of lk_RX7_60 (by decide) rfl hl.1 (Nat.le_of_ble_eq_true rfl) dX7_vote_106 (c2 := 0) (s2 := 0) (by decide) (fun v10 h H locs hH hf => ?_)
      refine p_max X m_985 m_148 m_39 m_149 hl.1 (by decide) (Nat.le_of_ble_eq_true rfl) (by decide) (by decide) dX7_vote_109 ?_
      refine p_cVV (As := [.int x3, .int (8 : Int32), .int (mxI (4 : Int32) v10)]) (b := x0) (rest := []) (ci := 8) X hH rfl hf (fun _ _ e_ => c_X7_set l G x0 x3 (8 : Int32) (mxI (4 : Int32) v10) h _ _ e_) mv_X7_set lk_RX7_73 (by decide) rfl hl.1 (Nat.le_of_ble_eq_true rfl) dX7_vote_112 (c2 := 0) (s2 := 0) (by decide) (fun _ h H locs hH hf => ?_)
      exact w_X7_vote_b115 l X k54 ik54 x0 x1 x2 x3 x4 h H locs ls hH (lv_sub hl [0, 1, 2, 3, 4] rfl) hf
set_option maxRecDepth 100000 in
set_option maxHeartbeats 4000000 in
theorem w_X7_vote_b54 {G : GE} {p : Program} (l : Launch) {e : Env} {s : State} {m : MethodId} {args : Array Value} {below : List Frame} {meth : Method} {c : Code} {rr : Int32} {hh : PH} (X : Cx G p s m args meth c cX7_vote 5 RX7 "vote" (some .int)) : ∀ (n : Nat) (x0 : Nat) (x1 : Int32) (x2 : Int32) (x3 : Int32) (h : PH) (H : Heap) (locs : List Loc) (ls : Array Slot) (hH : Hx G s h H locs) (hl : lv_has ls 5 [(0, .ref x0), (1, .int x1), (2, .int x2), (3, .int x3)]) (hf : f_X7_vote_b54 G n x0 x1 x2 x3 h = some (rr, hh)), W p l e rm_X7_vote s m args below meth c H locs 0 0 (Fq G (some (.int rr)) hh below args s rm_X7_vote.cells rm_X7_vote.slots) (F0 m 54 ls []) := by
  have hx := X.1
  have hb := X.2.1
  intro n
  induction n with
  | zero =>
    intro x0 x1 x2 x3 h H locs ls hH hl hf
    have hf : (none : Option (Int32 × PH)) = some (rr, hh) := hf
    cases hf
  | succ n ih =>
    intro x0 x1 x2 x3 h H locs ls hH hl hf
    have hf : f_X7_vote_b54_body G (f_X7_vote_b54 G n) x0 x1 x2 x3 h = some (rr, hh) := hf
    generalize f_X7_vote_b54 G n = k54 at hf ih
    have ik54 := ih
    unfold f_X7_vote_b54_body at hf
    refine lv_iload_n hx hb dX7_vote_54 rfl (lv_at hl 3 rfl) ?_
    refine lv_aload_n hx hb dX7_vote_55 rfl (lv_at hl 0 rfl) ?_
    refine p_getI X hH fg_RX7_38 hf dX7_vote_56 (fun v8 _ hf => ?_)
    refine p_icmp_ge X hf dX7_vote_59 (tgt := 150) (by decide) (fun _ hf => ?_) (fun _ hf => ?_)
    · refine lv_iconst (v := 1) hx hb dX7_vote_150 (by decide) ?_
      exact p_iret X hH hf (by decide) (by decide) dX7_vote_151
    · refine lv_aload_n hx hb dX7_vote_62 rfl (lv_at hl 0 rfl) ?_
      refine lv_iload_n hx hb dX7_vote_63 rfl (lv_at hl 1 rfl) ?_
      refine lv_iload_n hx hb dX7_vote_64 rfl (lv_at hl 3 rfl) ?_
      refine p_cVI (As := [.int x1, .int x3]) (b := x0) (rest := []) (ci := 8) X hH rfl hf (fun _ _ e_ => c_X7_stand l G x0 x1 x3 h _ _ e_) mv_X7_stand lk_RX7_97 (by decide) rfl hl.1 (Nat.le_of_ble_eq_true rfl) dX7_vote_65 (c2 := 0) (s2 := 0) (by decide) (fun v9 h H locs hH hf => ?_)
      refine lv_istore (lv' := [(4, .int v9), (0, .ref x0), (1, .int x1), (2, .int x2), (3, .int x3)]) hx hb dX7_vote_68 hl (by decide) rfl (fun ls hl => ?_)
      refine lv_iload_n hx hb dX7_vote_70 rfl (lv_at hl 3 rfl) ?_
      refine lv_iconst (v := 1) hx hb dX7_vote_71 (by decide) ?_
      refine p_icmp_ne X hf dX7_vote_72 (tgt := 86) (by decide) (fun _ hf => ?_) (fun _ hf => ?_)
      · exact w_X7_vote_b86 l X k54 ik54 x0 x1 x2 x3 v9 h H locs ls hH (lv_sub hl [1, 2, 3, 4, 0] rfl) hf
      · refine lv_iload hx hb dX7_vote_75 (lv_at hl 0 rfl) ?_
        refine lv_iconst (v := 1) hx hb dX7_vote_77 (by decide) ?_
        refine p_icmp_ne X hf dX7_vote_78 (tgt := 86) (by decide) (fun _ hf => ?_) (fun _ hf => ?_)
        · exact w_X7_vote_b86 l X k54 ik54 x0 x1 x2 x3 v9 h H locs ls hH (lv_sub hl [1, 2, 3, 4, 0] rfl) hf
        · refine lv_aload_n hx hb dX7_vote_81 rfl (lv_at hl 1 rfl) ?_
          refine lv_iload_n hx hb dX7_vote_82 rfl (lv_at hl 4 rfl) ?_
          refine p_cVV (As := [.int x3]) (b := x0) (rest := []) (ci := 8) X hH rfl hf (fun _ _ e_ => c_X7_oil l G x0 x3 h _ _ e_) mv_X7_oil lk_RX7_107 (by decide) rfl hl.1 (Nat.le_of_ble_eq_true rfl) dX7_vote_83 (c2 := 0) (s2 := 0) (by decide) (fun _ h H locs hH hf => ?_)
          exact w_X7_vote_b86 l X k54 ik54 x0 x1 x2 x3 v9 h H locs ls hH (lv_sub hl [1, 2, 3, 4, 0] rfl) hf
set_option maxRecDepth 100000 in
set_option maxHeartbeats 4000000 in
theorem c_X7_vote (l : Launch) (G : GE) (x0 : Nat) (x1 : Int32) (h : PH) (rr : Int32) (hh : PH) (hf : f_X7_vote G x0 x1 h = some (rr, hh)) : Ct l yX7_vote cX7_vote 5 (some .int) rm_X7_vote G [.ref x0, .int x1] h (some (.int rr)) hh := by
  refine Ct.of (plainFor_of_name (by decide)) (Nat.le_of_ble_eq_true rfl) ?_
  intro p e s m args below meth c ls X hH hl
  have hl : lv_has ls 5 [(0, .ref x0), (1, .int x1)] := hl
  have X : Cx G p s m args meth c cX7_vote 5 RX7 "vote" (some .int) := X
  have hx := X.1
  have hb := X.2.1
  unfold f_X7_vote at hf
  obtain ⟨H, hHe⟩ : ∃ z, z = s.heap := ⟨_, rfl⟩
  obtain ⟨locs, hLe⟩ : ∃ z, z = ([] : List Loc) := ⟨_, rfl⟩
  rw [← hHe, ← hLe] at hH
  rw [← hHe, ← hLe]
  refine lv_aload_n hx hb dX7_vote_0 rfl (lv_at hl 0 rfl) ?_
  refine p_getR X hH fg_RX7_29 hf dX7_vote_1 (fun v1 _ hf => ?_)
  refine lv_bipush (v := 6) hx hb dX7_vote_4 (by decide) ?_
  refine lv_iload_n hx hb dX7_vote_6 rfl (lv_at hl 1 rfl) ?_
  refine lv_imul hx hb dX7_vote_7 ?_
  refine lv_iconst (v := 4) hx hb dX7_vote_8 (by decide) ?_
  refine lv_iadd hx hb dX7_vote_9 ?_
  refine lv_dup2_11 hx hb dX7_vote_10 rfl rfl ?_
  refine p_iald X hH hf dX7_vote_11 (fun v2 _ hf => ?_)
  refine lv_iconst (v := 1) hx hb dX7_vote_12 (by decide) ?_
  refine lv_iadd hx hb dX7_vote_13 ?_
  refine p_iast X hH hf dX7_vote_14 (fun h H locs hH hf => ?_)
  refine lv_aload_n hx hb dX7_vote_15 rfl (lv_at hl 0 rfl) ?_
  refine lv_iload_n hx hb dX7_vote_16 rfl (lv_at hl 1 rfl) ?_
  refine p_cVI (As := [.int x1]) (b := x0) (rest := []) (ci := 8) X hH rfl hf (fun _ _ e_ => c_X7_would l G x0 x1 h _ _ e_) mv_X7_would lk_RX7_103 (by decide) rfl hl.1 (Nat.le_of_ble_eq_true rfl) dX7_vote_17 (c2 := 0) (s2 := 0) (by decide) (fun v3 h H locs hH hf => ?_)
  refine p_if_ne X hf dX7_vote_20 (tgt := 25) (by decide) (fun _ hf => ?_) (fun _ hf => ?_)
  · refine lv_aload_n hx hb dX7_vote_25 rfl (lv_at hl 0 rfl) ?_
    refine p_getR X hH fg_RX7_29 hf dX7_vote_26 (fun v4 _ hf => ?_)
    refine lv_bipush (v := 6) hx hb dX7_vote_29 (by decide) ?_
    refine lv_iload_n hx hb dX7_vote_31 rfl (lv_at hl 1 rfl) ?_
    refine lv_imul hx hb dX7_vote_32 ?_
    refine lv_iconst (v := 5) hx hb dX7_vote_33 (by decide) ?_
    refine lv_iadd hx hb dX7_vote_34 ?_
    refine lv_dup2_11 hx hb dX7_vote_35 rfl rfl ?_
    refine p_iald X hH hf dX7_vote_36 (fun v5 _ hf => ?_)
    refine lv_iconst (v := 1) hx hb dX7_vote_37 (by decide) ?_
    refine lv_iadd hx hb dX7_vote_38 ?_
    refine p_iast X hH hf dX7_vote_39 (fun h H locs hH hf => ?_)
    refine lv_aload_n hx hb dX7_vote_40 rfl (lv_at hl 0 rfl) ?_
    refine p_getR X hH fg_RX7_29 hf dX7_vote_41 (fun v6 _ hf => ?_)
    refine lv_bipush (v := 6) hx hb dX7_vote_44 (by decide) ?_
    refine lv_iload_n hx hb dX7_vote_46 rfl (lv_at hl 1 rfl) ?_
    refine lv_imul hx hb dX7_vote_47 ?_
    refine lv_iconst (v := 3) hx hb dX7_vote_48 (by decide) ?_
    refine lv_iadd hx hb dX7_vote_49 ?_
    refine p_iald X hH hf dX7_vote_50 (fun v7 _ hf => ?_)
    refine lv_istore_n (lv' := [(2, .int v7), (0, .ref x0), (1, .int x1)]) hx hb dX7_vote_51 rfl hl (by decide) rfl (fun ls hl => ?_)
    refine lv_iconst (v := 0) hx hb dX7_vote_52 (by decide) ?_
    refine lv_istore_n (lv' := [(3, .int (0 : Int32)), (2, .int v7), (0, .ref x0), (1, .int x1)]) hx hb dX7_vote_53 rfl hl (by decide) rfl (fun ls hl => ?_)
    exact w_X7_vote_b54 l X LF x0 x1 v7 (0 : Int32) h H locs ls hH (lv_sub hl [2, 3, 1, 0] rfl) hf
  · refine lv_iconst (v := 0) hx hb dX7_vote_23 (by decide) ?_
    exact p_iret X hH hf (by decide) (by decide) dX7_vote_24
set_option maxRecDepth 100000 in
set_option maxHeartbeats 4000000 in
theorem w_X7_end_b175 {G : GE} {p : Program} (l : Launch) {e : Env} {s : State} {m : MethodId} {args : Array Value} {below : List Frame} {meth : Method} {c : Code} {rr : Int32} {hh : PH} (X : Cx G p s m args meth c cX7_end 4 RX7 "end" (some .int)) (x0 : Nat) (x1 : Int32) (h : PH) (H : Heap) (locs : List Loc) (ls : Array Slot) (hH : Hx G s h H locs) (hl : lv_has ls 4 [(0, .ref x0), (1, .int x1)]) (hf : f_X7_end_b175 G x0 x1 h = some (rr, hh)) : W p l e rm_X7_end s m args below meth c H locs 0 0 (Fq G (some (.int rr)) hh below args s rm_X7_end.cells rm_X7_end.slots) (F0 m 175 ls []) := by
  have hx := X.1
  have hb := X.2.1
  unfold f_X7_end_b175 at hf
  refine lv_aload_n hx hb dX7_end_175 rfl (lv_at hl 0 rfl) ?_
  refine lv_dup hx hb dX7_end_176 rfl ?_
  refine p_getI X hH fg_RX7_35 hf dX7_end_177 (fun v21 _ hf => ?_)
  refine lv_iconst (v := 1) hx hb dX7_end_180 (by decide) ?_
  refine lv_iadd hx hb dX7_end_181 ?_
  refine p_put X hH fp_RX7_35 rfl rfl hf dX7_end_182 (fun h H locs hH hf => ?_)
  refine lv_aload_n hx hb dX7_end_185 rfl (lv_at hl 0 rfl) ?_
  refine lv_dup hx hb dX7_end_186 rfl ?_
  refine p_getI X hH fg_RX7_47 hf dX7_end_187 (fun v22 _ hf => ?_)
  refine lv_iload_n hx hb dX7_end_190 rfl (lv_at hl 1 rfl) ?_
  refine lv_iadd hx hb dX7_end_191 ?_
  refine p_put X hH fp_RX7_47 rfl rfl hf dX7_end_192 (fun h H locs hH hf => ?_)
  refine lv_iload_n hx hb dX7_end_195 rfl (lv_at hl 1 rfl) ?_
  exact p_iret X hH hf (by decide) (by decide) dX7_end_196
set_option maxRecDepth 100000 in
set_option maxHeartbeats 4000000 in
theorem w_X7_end_b169 {G : GE} {p : Program} (l : Launch) {e : Env} {s : State} {m : MethodId} {args : Array Value} {below : List Frame} {meth : Method} {c : Code} {rr : Int32} {hh : PH} (X : Cx G p s m args meth c cX7_end 4 RX7 "end" (some .int)) (k101 : Nat → Int32 → Int32 → PH → Option (Int32 × PH)) (ik101 : ∀ (x0 : Nat) (x1 : Int32) (x3 : Int32) (h : PH) (H : Heap) (locs : List Loc) (ls : Array Slot), Hx G s h H locs → lv_has ls 4 [(0, .ref x0), (1, .int x1), (3, .int x3)] → k101 x0 x1 x3 h = some (rr, hh) → W p l e rm_X7_end s m args below meth c H locs 0 0 (Fq G (some (.int rr)) hh below args s rm_X7_end.cells rm_X7_end.slots) (F0 m 101 ls [])) (x0 : Nat) (x1 : Int32) (x3 : Int32) (h : PH) (H : Heap) (locs : List Loc) (ls : Array Slot) (hH : Hx G s h H locs) (hl : lv_has ls 4 [(0, .ref x0), (1, .int x1), (3, .int x3)]) (hf : f_X7_end_b169 G k101 x0 x1 x3 h = some (rr, hh)) : W p l e rm_X7_end s m args below meth c H locs 0 0 (Fq G (some (.int rr)) hh below args s rm_X7_end.cells rm_X7_end.slots) (F0 m 169 ls []) := by
  have hx := X.1
  have hb := X.2.1
  unfold f_X7_end_b169 at hf
  refine lv_iinc (v := (x3 + (1 : Int32))) (lv' := [(3, .int (x3 + (1 : Int32))), (0, .ref x0), (1, .int x1)]) hx hb dX7_end_169 hl (k := 2) rfl rfl (by decide) rfl (fun ls hl => ?_)
  refine lv_goto (tgt := 101) hx hb dX7_end_172 (by decide) ?_
  exact ik101 x0 x1 (x3 + (1 : Int32)) h H locs ls hH (lv_sub hl [1, 2, 0] rfl) hf
set_option maxRecDepth 100000 in
set_option maxHeartbeats 4000000 in
theorem w_X7_end_b101 {G : GE} {p : Program} (l : Launch) {e : Env} {s : State} {m : MethodId} {args : Array Value} {below : List Frame} {meth : Method} {c : Code} {rr : Int32} {hh : PH} (X : Cx G p s m args meth c cX7_end 4 RX7 "end" (some .int)) : ∀ (n : Nat) (x0 : Nat) (x1 : Int32) (x3 : Int32) (h : PH) (H : Heap) (locs : List Loc) (ls : Array Slot) (hH : Hx G s h H locs) (hl : lv_has ls 4 [(0, .ref x0), (1, .int x1), (3, .int x3)]) (hf : f_X7_end_b101 G n x0 x1 x3 h = some (rr, hh)), W p l e rm_X7_end s m args below meth c H locs 0 0 (Fq G (some (.int rr)) hh below args s rm_X7_end.cells rm_X7_end.slots) (F0 m 101 ls []) := by
  have hx := X.1
  have hb := X.2.1
  intro n
  induction n with
  | zero =>
    intro x0 x1 x3 h H locs ls hH hl hf
    have hf : (none : Option (Int32 × PH)) = some (rr, hh) := hf
    cases hf
  | succ n ih =>
    intro x0 x1 x3 h H locs ls hH hl hf
    have hf : f_X7_end_b101_body G (f_X7_end_b101 G n) x0 x1 x3 h = some (rr, hh) := hf
    generalize f_X7_end_b101 G n = k101 at hf ih
    have ik101 := ih
    unfold f_X7_end_b101_body at hf
    refine lv_iload_n hx hb dX7_end_101 rfl (lv_at hl 2 rfl) ?_
    refine lv_aload_n hx hb dX7_end_102 rfl (lv_at hl 0 rfl) ?_
    refine p_getI X hH fg_RX7_38 hf dX7_end_103 (fun v14 _ hf => ?_)
    refine p_icmp_ge X hf dX7_end_106 (tgt := 175) (by decide) (fun _ hf => ?_) (fun _ hf => ?_)
    · exact w_X7_end_b175 l X x0 x1 h H locs ls hH (lv_sub hl [0, 1] rfl) hf
    · refine lv_aload_n hx hb dX7_end_109 rfl (lv_at hl 0 rfl) ?_
      refine p_getR X hH fg_RX7_22 hf dX7_end_110 (fun v15 _ hf => ?_)
      refine lv_aload_n hx hb dX7_end_113 rfl (lv_at hl 0 rfl) ?_
      refine p_cVI (As := []) (b := x0) (rest := [.ref v15]) (ci := 8) X hH rfl hf (fun _ _ e_ => c_X7_entry l G x0 h _ _ e_) mv_X7_entry lk_RX7_56 (by decide) rfl hl.1 (Nat.le_of_ble_eq_true rfl) dX7_end_114 (c2 := 0) (s2 := 0) (by decide) (fun v16 h H locs hH hf => ?_)
      refine p_zald X hH hf dX7_end_117 (fun v17 _ hf => ?_)
      refine p_if_eq X hf dX7_end_118 (tgt := 175) (by decide) (fun _ hf => ?_) (fun _ hf => ?_)
      · exact w_X7_end_b175 l X x0 x1 h H locs ls hH (lv_sub hl [0, 1] rfl) hf
      · refine lv_aload_n hx hb dX7_end_121 rfl (lv_at hl 0 rfl) ?_
        refine lv_iload_n hx hb dX7_end_122 rfl (lv_at hl 2 rfl) ?_
        refine lv_bipush (v := 9) hx hb dX7_end_123 (by decide) ?_
        refine lv_aload_n hx hb dX7_end_125 rfl (lv_at hl 0 rfl) ?_
        refine lv_iload_n hx hb dX7_end_126 rfl (lv_at hl 2 rfl) ?_
        refine lv_bipush (v := 9) hx hb dX7_end_127 (by decide) ?_
        refine p_cVI (As := [.int x3, .int (9 : Int32)]) (b := x0) (rest := [.int (9 : Int32), .int x3, .ref x0]) (ci := 8) X hH rfl hf (fun _ _ e_ => c_X7_of l G x0 x3 (9 : Int32) h _ _ e_) mv_X7_of lk_RX7_60 (by decide) rfl hl.1 (Nat.le_of_ble_eq_true rfl) dX7_end_129 (c2 := 0) (s2 := 0) (by decide) (fun v18 h H locs hH hf => ?_)
        refine lv_iconst (v := 1) hx hb dX7_end_132 (by decide) ?_
        refine lv_iadd hx hb dX7_end_133 ?_
        refine p_cVV (As := [.int x3, .int (9 : Int32), .int (v18 + (1 : Int32))]) (b := x0) (rest := []) (ci := 8) X hH rfl hf (fun _ _ e_ => c_X7_set l G x0 x3 (9 : Int32) (v18 + (1 : Int32)) h _ _ e_) mv_X7_set lk_RX7_73 (by decide) rfl hl.1 (Nat.le_of_ble_eq_true rfl) dX7_end_134 (c2 := 0) (s2 := 0) (by decide) (fun _ h H locs hH hf => ?_)
        refine lv_aload_n hx hb dX7_end_137 rfl (lv_at hl 0 rfl) ?_
        refine lv_iload_n hx hb dX7_end_138 rfl (lv_at hl 2 rfl) ?_
        refine lv_bipush (v := 9) hx hb dX7_end_139 (by decide) ?_
        refine p_cVI (As := [.int x3, .int (9 : Int32)]) (b := x0) (rest := []) (ci := 8) X hH rfl hf (fun _ _ e_ => c_X7_of l G x0 x3 (9 : Int32) h _ _ e_) mv_X7_of lk_RX7_60 (by decide) rfl hl.1 (Nat.le_of_ble_eq_true rfl) dX7_end_141 (c2 := 0) (s2 := 0) (by decide) (fun v19 h H locs hH hf => ?_)
        refine lv_iconst (v := 2) hx hb dX7_end_144 (by decide) ?_
        refine lv_irem hx hb dX7_end_145 (by decide) ?_
        refine lv_iconst (v := 1) hx hb dX7_end_146 (by decide) ?_
        refine p_icmp_ne X hf dX7_end_147 (tgt := 169) (by decide) (fun _ hf => ?_) (fun _ hf => ?_)
        · exact w_X7_end_b169 l X k101 ik101 x0 x1 x3 h H locs ls hH (lv_sub hl [0, 1, 2] rfl) hf
        · refine lv_aload_n hx hb dX7_end_150 rfl (lv_at hl 0 rfl) ?_
          refine lv_iload_n hx hb dX7_end_151 rfl (lv_at hl 2 rfl) ?_
          refine lv_iconst (v := 5) hx hb dX7_end_152 (by decide) ?_
          refine lv_bipush (v := 9) hx hb dX7_end_153 (by decide) ?_
          refine lv_aload_n hx hb dX7_end_155 rfl (lv_at hl 0 rfl) ?_
          refine lv_iload_n hx hb dX7_end_156 rfl (lv_at hl 2 rfl) ?_
          refine lv_iconst (v := 5) hx hb dX7_end_157 (by decide) ?_
          refine p_cVI (As := [.int x3, .int (5 : Int32)]) (b := x0) (rest := [.int (9 : Int32), .int (5 : Int32), .int x3, .ref x0]) (ci := 8) X hH rfl hf (fun _ _ e_ => c_X7_of l G x0 x3 (5 : Int32) h _ _ e_) mv_X7_of lk_RX7_60 (by decide) rfl hl.1 (Nat.le_of_ble_eq_true rfl) dX7_end_158 (c2 := 0) (s2 := 0) (by decide) (fun v20 h H locs hH hf => ?_)
          refine lv_iconst (v := 1) hx hb dX7_end_161 (by decide) ?_
          refine lv_iadd hx hb dX7_end_162 ?_
          refine p_min X m_1047 m_181 m_39 m_182 hl.1 (by decide) (Nat.le_of_ble_eq_true rfl) (by decide) (by decide) dX7_end_163 ?_
          refine p_cVV (As := [.int x3, .int (5 : Int32), .int (mnI (9 : Int32) (v20 + (1 : Int32)))]) (b := x0) (rest := []) (ci := 8) X hH rfl hf (fun _ _ e_ => c_X7_set l G x0 x3 (5 : Int32) (mnI (9 : Int32) (v20 + (1 : Int32))) h _ _ e_) mv_X7_set lk_RX7_73 (by decide) rfl hl.1 (Nat.le_of_ble_eq_true rfl) dX7_end_166 (c2 := 0) (s2 := 0) (by decide) (fun _ h H locs hH hf => ?_)
          exact w_X7_end_b169 l X k101 ik101 x0 x1 x3 h H locs ls hH (lv_sub hl [0, 1, 2] rfl) hf
set_option maxRecDepth 100000 in
set_option maxHeartbeats 4000000 in
theorem w_X7_end_b88 {G : GE} {p : Program} (l : Launch) {e : Env} {s : State} {m : MethodId} {args : Array Value} {below : List Frame} {meth : Method} {c : Code} {rr : Int32} {hh : PH} (X : Cx G p s m args meth c cX7_end 4 RX7 "end" (some .int)) (k6 : Nat → Int32 → Int32 → Int32 → PH → Option (Int32 × PH)) (ik6 : ∀ (x0 : Nat) (x1 : Int32) (x2 : Int32) (x3 : Int32) (h : PH) (H : Heap) (locs : List Loc) (ls : Array Slot), Hx G s h H locs → lv_has ls 4 [(0, .ref x0), (1, .int x1), (2, .int x2), (3, .int x3)] → k6 x0 x1 x2 x3 h = some (rr, hh) → W p l e rm_X7_end s m args below meth c H locs 0 0 (Fq G (some (.int rr)) hh below args s rm_X7_end.cells rm_X7_end.slots) (F0 m 6 ls [])) (x0 : Nat) (x1 : Int32) (x2 : Int32) (x3 : Int32) (h : PH) (H : Heap) (locs : List Loc) (ls : Array Slot) (hH : Hx G s h H locs) (hl : lv_has ls 4 [(0, .ref x0), (1, .int x1), (2, .int x2), (3, .int x3)]) (hf : f_X7_end_b88 G k6 x0 x1 x2 x3 h = some (rr, hh)) : W p l e rm_X7_end s m args below meth c H locs 0 0 (Fq G (some (.int rr)) hh below args s rm_X7_end.cells rm_X7_end.slots) (F0 m 88 ls []) := by
  have hx := X.1
  have hb := X.2.1
  unfold f_X7_end_b88 at hf
  refine lv_iinc (v := (x3 + (1 : Int32))) (lv' := [(3, .int (x3 + (1 : Int32))), (0, .ref x0), (1, .int x1), (2, .int x2)]) hx hb dX7_end_88 hl (k := 3) rfl rfl (by decide) rfl (fun ls hl => ?_)
  refine lv_goto (tgt := 6) hx hb dX7_end_91 (by decide) ?_
  exact ik6 x0 x1 x2 (x3 + (1 : Int32)) h H locs ls hH (lv_sub hl [1, 2, 3, 0] rfl) hf
set_option maxRecDepth 100000 in
set_option maxHeartbeats 4000000 in
theorem w_X7_end_b6 {G : GE} {p : Program} (l : Launch) {e : Env} {s : State} {m : MethodId} {args : Array Value} {below : List Frame} {meth : Method} {c : Code} {rr : Int32} {hh : PH} (X : Cx G p s m args meth c cX7_end 4 RX7 "end" (some .int)) : ∀ (n : Nat) (x0 : Nat) (x1 : Int32) (x2 : Int32) (x3 : Int32) (h : PH) (H : Heap) (locs : List Loc) (ls : Array Slot) (hH : Hx G s h H locs) (hl : lv_has ls 4 [(0, .ref x0), (1, .int x1), (2, .int x2), (3, .int x3)]) (hf : f_X7_end_b6 G n x0 x1 x2 x3 h = some (rr, hh)), W p l e rm_X7_end s m args below meth c H locs 0 0 (Fq G (some (.int rr)) hh below args s rm_X7_end.cells rm_X7_end.slots) (F0 m 6 ls []) := by
  have hx := X.1
  have hb := X.2.1
  intro n
  induction n with
  | zero =>
    intro x0 x1 x2 x3 h H locs ls hH hl hf
    have hf : (none : Option (Int32 × PH)) = some (rr, hh) := hf
    cases hf
  | succ n ih =>
    intro x0 x1 x2 x3 h H locs ls hH hl hf
    have hf : f_X7_end_b6_body G (f_X7_end_b6 G n) x0 x1 x2 x3 h = some (rr, hh) := hf
    generalize f_X7_end_b6 G n = k6 at hf ih
    have ik6 := ih
    unfold f_X7_end_b6_body at hf
    refine lv_iload_n hx hb dX7_end_6 rfl (lv_at hl 3 rfl) ?_
    refine lv_aload_n hx hb dX7_end_7 rfl (lv_at hl 0 rfl) ?_
    refine p_getI X hH fg_RX7_44 hf dX7_end_8 (fun v1 _ hf => ?_)
    refine p_icmp_ge X hf dX7_end_11 (tgt := 94) (by decide) (fun _ hf => ?_) (fun _ hf => ?_)
    · refine lv_aload_n hx hb dX7_end_94 rfl (lv_at hl 0 rfl) ?_
      refine lv_iload_n hx hb dX7_end_95 rfl (lv_at hl 2 rfl) ?_
      refine p_put X hH fp_RX7_44 rfl rfl hf dX7_end_96 (fun h H locs hH hf => ?_)
      refine lv_iconst (v := 0) hx hb dX7_end_99 (by decide) ?_
      refine lv_istore_n (lv' := [(3, .int (0 : Int32)), (0, .ref x0), (1, .int x1), (2, .int x2)]) hx hb dX7_end_100 rfl hl (by decide) rfl (fun ls hl => ?_)
      exact w_X7_end_b101 l X LF x0 x1 (0 : Int32) h H locs ls hH (lv_sub hl [1, 2, 0] rfl) hf
    · refine lv_aload_n hx hb dX7_end_14 rfl (lv_at hl 0 rfl) ?_
      refine p_getR X hH fg_RX7_32 hf dX7_end_15 (fun v2 _ hf => ?_)
      refine lv_iconst (v := 2) hx hb dX7_end_18 (by decide) ?_
      refine lv_iload_n hx hb dX7_end_19 rfl (lv_at hl 3 rfl) ?_
      refine lv_imul hx hb dX7_end_20 ?_
      refine lv_iconst (v := 1) hx hb dX7_end_21 (by decide) ?_
      refine lv_iadd hx hb dX7_end_22 ?_
      refine p_iald X hH hf dX7_end_23 (fun v3 _ hf => ?_)
      refine lv_aload_n hx hb dX7_end_24 rfl (lv_at hl 0 rfl) ?_
      refine p_getI X hH fg_RX7_35 hf dX7_end_25 (fun v4 _ hf => ?_)
      refine p_icmp_ne X hf dX7_end_28 (tgt := 49) (by decide) (fun _ hf => ?_) (fun _ hf => ?_)
      · refine lv_aload_n hx hb dX7_end_49 rfl (lv_at hl 0 rfl) ?_
        refine p_getR X hH fg_RX7_32 hf dX7_end_50 (fun v5 _ hf => ?_)
        refine lv_iconst (v := 2) hx hb dX7_end_53 (by decide) ?_
        refine lv_iload_n hx hb dX7_end_54 rfl (lv_at hl 2 rfl) ?_
        refine lv_imul hx hb dX7_end_55 ?_
        refine lv_aload_n hx hb dX7_end_56 rfl (lv_at hl 0 rfl) ?_
        refine p_getR X hH fg_RX7_32 hf dX7_end_57 (fun v6 _ hf => ?_)
        refine lv_iconst (v := 2) hx hb dX7_end_60 (by decide) ?_
        refine lv_iload_n hx hb dX7_end_61 rfl (lv_at hl 3 rfl) ?_
        refine lv_imul hx hb dX7_end_62 ?_
        refine p_iald X hH hf dX7_end_63 (fun v7 _ hf => ?_)
        refine p_iast X hH hf dX7_end_64 (fun h H locs hH hf => ?_)
        refine lv_aload_n hx hb dX7_end_65 rfl (lv_at hl 0 rfl) ?_
        refine p_getR X hH fg_RX7_32 hf dX7_end_66 (fun v8 _ hf => ?_)
        refine lv_iconst (v := 2) hx hb dX7_end_69 (by decide) ?_
        refine lv_iload_n hx hb dX7_end_70 rfl (lv_at hl 2 rfl) ?_
        refine lv_imul hx hb dX7_end_71 ?_
        refine lv_iconst (v := 1) hx hb dX7_end_72 (by decide) ?_
        refine lv_iadd hx hb dX7_end_73 ?_
        refine lv_aload_n hx hb dX7_end_74 rfl (lv_at hl 0 rfl) ?_
        refine p_getR X hH fg_RX7_32 hf dX7_end_75 (fun v9 _ hf => ?_)
        refine lv_iconst (v := 2) hx hb dX7_end_78 (by decide) ?_
        refine lv_iload_n hx hb dX7_end_79 rfl (lv_at hl 3 rfl) ?_
        refine lv_imul hx hb dX7_end_80 ?_
        refine lv_iconst (v := 1) hx hb dX7_end_81 (by decide) ?_
        refine lv_iadd hx hb dX7_end_82 ?_
        refine p_iald X hH hf dX7_end_83 (fun v10 _ hf => ?_)
        refine p_iast X hH hf dX7_end_84 (fun h H locs hH hf => ?_)
        refine lv_iinc (v := (x2 + (1 : Int32))) (lv' := [(2, .int (x2 + (1 : Int32))), (0, .ref x0), (1, .int x1), (3, .int x3)]) hx hb dX7_end_85 hl (k := 2) rfl rfl (by decide) rfl (fun ls hl => ?_)
        exact w_X7_end_b88 l X k6 ik6 x0 x1 (x2 + (1 : Int32)) x3 h H locs ls hH (lv_sub hl [1, 2, 0, 3] rfl) hf
      · refine lv_iload_n hx hb dX7_end_31 rfl (lv_at hl 1 rfl) ?_
        refine lv_aload_n hx hb dX7_end_32 rfl (lv_at hl 0 rfl) ?_
        refine lv_aload_n hx hb dX7_end_33 rfl (lv_at hl 0 rfl) ?_
        refine p_getR X hH fg_RX7_32 hf dX7_end_34 (fun v11 _ hf => ?_)
        refine lv_iconst (v := 2) hx hb dX7_end_37 (by decide) ?_
        refine lv_iload_n hx hb dX7_end_38 rfl (lv_at hl 3 rfl) ?_
        refine lv_imul hx hb dX7_end_39 ?_
        refine p_iald X hH hf dX7_end_40 (fun v12 _ hf => ?_)
        refine p_cVI (As := [.int v12]) (b := x0) (rest := [.int x1]) (ci := 8) X hH rfl hf (fun _ _ e_ => c_X7_vote l G x0 v12 h _ _ e_) mv_X7_vote lk_RX7_91 (by decide) rfl hl.1 (Nat.le_of_ble_eq_true rfl) dX7_end_41 (c2 := 0) (s2 := 0) (by decide) (fun v13 h H locs hH hf => ?_)
        refine lv_iadd hx hb dX7_end_44 ?_
        refine lv_istore_n (lv' := [(1, .int (x1 + v13)), (0, .ref x0), (2, .int x2), (3, .int x3)]) hx hb dX7_end_45 rfl hl (by decide) rfl (fun ls hl => ?_)
        refine lv_goto (tgt := 88) hx hb dX7_end_46 (by decide) ?_
        exact w_X7_end_b88 l X k6 ik6 x0 (x1 + v13) x2 x3 h H locs ls hH (lv_sub hl [1, 0, 2, 3] rfl) hf
set_option maxRecDepth 100000 in
set_option maxHeartbeats 4000000 in
theorem c_X7_end (l : Launch) (G : GE) (x0 : Nat) (h : PH) (rr : Int32) (hh : PH) (hf : f_X7_end G x0 h = some (rr, hh)) : Ct l yX7_end cX7_end 4 (some .int) rm_X7_end G [.ref x0] h (some (.int rr)) hh := by
  refine Ct.of (plainFor_of_name (by decide)) (Nat.le_of_ble_eq_true rfl) ?_
  intro p e s m args below meth c ls X hH hl
  have hl : lv_has ls 4 [(0, .ref x0)] := hl
  have X : Cx G p s m args meth c cX7_end 4 RX7 "end" (some .int) := X
  have hx := X.1
  have hb := X.2.1
  unfold f_X7_end at hf
  obtain ⟨H, hHe⟩ : ∃ z, z = s.heap := ⟨_, rfl⟩
  obtain ⟨locs, hLe⟩ : ∃ z, z = ([] : List Loc) := ⟨_, rfl⟩
  rw [← hHe, ← hLe] at hH
  rw [← hHe, ← hLe]
  refine lv_iconst (v := 0) hx hb dX7_end_0 (by decide) ?_
  refine lv_istore_n (lv' := [(1, .int (0 : Int32)), (0, .ref x0)]) hx hb dX7_end_1 rfl hl (by decide) rfl (fun ls hl => ?_)
  refine lv_iconst (v := 0) hx hb dX7_end_2 (by decide) ?_
  refine lv_istore_n (lv' := [(2, .int (0 : Int32)), (1, .int (0 : Int32)), (0, .ref x0)]) hx hb dX7_end_3 rfl hl (by decide) rfl (fun ls hl => ?_)
  refine lv_iconst (v := 0) hx hb dX7_end_4 (by decide) ?_
  refine lv_istore_n (lv' := [(3, .int (0 : Int32)), (2, .int (0 : Int32)), (1, .int (0 : Int32)), (0, .ref x0)]) hx hb dX7_end_5 rfl hl (by decide) rfl (fun ls hl => ?_)
  exact w_X7_end_b6 l X LF x0 (0 : Int32) (0 : Int32) (0 : Int32) h H locs ls hH (lv_sub hl [3, 2, 1, 0] rfl) hf
