/-! ===== walks (printed by program) ===== -/
set_option maxRecDepth 100000 in
set_option maxHeartbeats 4000000 in
theorem c_X7_pass (l : Launch) (G : GE) (x0 : Nat) (h : PH) (rr : Int32) (hh : PH) (hf : f_X7_pass G x0 h = some (rr, hh)) : Ct l yX7_pass cX7_pass 1 (some .int) rm_X7_pass G [.ref x0] h (some (.int rr)) hh := by
  refine Ct.of (plainFor_of_name (by decide)) (Nat.le_of_ble_eq_true rfl) ?_
  intro p e s m args below meth c ls X hH hl
  have hl : lv_has ls 1 [(0, .ref x0)] := hl
  have X : Cx G p s m args meth c cX7_pass 1 RX7 "pass" (some .int) := X
  have hx := X.1
  have hb := X.2.1
  unfold f_X7_pass at hf
  obtain ⟨H, hHe⟩ : ∃ z, z = s.heap := ⟨_, rfl⟩
  obtain ⟨locs, hLe⟩ : ∃ z, z = ([] : List Loc) := ⟨_, rfl⟩
  rw [← hHe, ← hLe] at hH
  rw [← hHe, ← hLe]
  refine lv_aload_n hx hb dX7_pass_0 rfl (lv_at hl 0 rfl) ?_
  refine p_cVV (As := []) (b := x0) (rest := []) (ci := 8) X hH rfl hf (fun _ _ e_ => c_X7_turn l G x0 h _ _ e_) mv_X7_turn lk_RX7_111 (by decide) rfl hl.1 (Nat.le_of_ble_eq_true rfl) dX7_pass_1 (c2 := 0) (s2 := 0) (by decide) (fun _ h H locs hH hf => ?_)
  refine lv_aload_n hx hb dX7_pass_4 rfl (lv_at hl 0 rfl) ?_
  refine p_cVI (As := []) (b := x0) (rest := []) (ci := 8) X hH rfl hf (fun _ _ e_ => c_X7_end l G x0 h _ _ e_) mv_X7_end lk_RX7_114 (by decide) rfl hl.1 (Nat.le_of_ble_eq_true rfl) dX7_pass_5 (c2 := 0) (s2 := 0) (by decide) (fun v1 h H locs hH hf => ?_)
  exact p_iret X hH hf (by decide) (by decide) dX7_pass_8
set_option maxRecDepth 100000 in
set_option maxHeartbeats 4000000 in
theorem c_X8_init (l : Launch) (G : GE) (x0 : Nat) (h : PH) (rr : Unit) (hh : PH) (hf : f_X8_init G x0 h = some (rr, hh)) : Ct l yX8_init cX8_init 1 none rm_X8_init G [.ref x0] h none hh := by
  refine Ct.of (plainFor_of_name (by decide)) (Nat.le_of_ble_eq_true rfl) ?_
  intro p e s m args below meth c ls X hH hl
  have hl : lv_has ls 1 [(0, .ref x0)] := hl
  have X : Cx G p s m args meth c cX8_init 1 RX8 "<init>" none := X
  have hx := X.1
  have hb := X.2.1
  unfold f_X8_init at hf
  obtain ⟨H, hHe⟩ : ∃ z, z = s.heap := ⟨_, rfl⟩
  obtain ⟨locs, hLe⟩ : ∃ z, z = ([] : List Loc) := ⟨_, rfl⟩
  rw [← hHe, ← hLe] at hH
  rw [← hHe, ← hLe]
  refine lv_aload_n hx hb dX8_init_0 rfl (lv_at hl 0 rfl) ?_
  refine p_oinit X m_832 m_63 m_64 hl.1 dX8_init_1 (by decide) (Nat.le_of_ble_eq_true rfl) ?_
  refine lv_aload_n hx hb dX8_init_4 rfl (lv_at hl 0 rfl) ?_
  refine p_new X hH fn_RX8_7 (by decide) (by decide) hf dX8_init_5 (fun q1 h H hH hf => ?_)
  refine W.widen (k := 1) (n := 12) (by decide) (by decide) ?_
  refine lv_dup hx hb dX8_init_8 rfl ?_
  refine p_cIV (As := []) (b := q1) (rest := [.ref q1, .ref x0]) X hH hf (fun _ _ e_ => c_X7_init l G q1 h _ _ e_) mi_X7_init lk_RX8_9 (by decide) rfl hl.1 (Nat.le_of_ble_eq_true rfl) dX8_init_9 (c2 := 7) (s2 := 356) (by decide) (fun _ h H locs hH hf => ?_)
  refine p_put X hH fp_RX8_10 rfl rfl hf dX8_init_12 (fun h H locs hH hf => ?_)
  refine lv_aload_n hx hb dX8_init_15 rfl (lv_at hl 0 rfl) ?_
  refine p_new X hH fn_RX8_7 (by decide) (by decide) hf dX8_init_16 (fun q2 h H hH hf => ?_)
  refine W.widen (k := 8) (n := 368) (by decide) (by decide) ?_
  refine lv_dup hx hb dX8_init_19 rfl ?_
  refine p_cIV (As := []) (b := q2) (rest := [.ref q2, .ref x0]) X hH hf (fun _ _ e_ => c_X7_init l G q2 h _ _ e_) mi_X7_init lk_RX8_9 (by decide) rfl hl.1 (Nat.le_of_ble_eq_true rfl) dX8_init_20 (c2 := 14) (s2 := 712) (by decide) (fun _ h H locs hH hf => ?_)
  refine p_put X hH fp_RX8_16 rfl rfl hf dX8_init_23 (fun h H locs hH hf => ?_)
  exact p_vret X hH hf (by decide) (by decide) dX8_init_26
set_option maxRecDepth 100000 in
set_option maxHeartbeats 4000000 in
theorem c_X8_thrown (l : Launch) (G : GE) (x0 : Nat) (h : PH) (rr : Int32) (hh : PH) (hf : f_X8_thrown G x0 h = some (rr, hh)) : Ct l yX8_thrown cX8_thrown 1 (some .int) rm_X8_thrown G [.ref x0] h (some (.int rr)) hh := by
  refine Ct.of (plainFor_of_name (by decide)) (Nat.le_of_ble_eq_true rfl) ?_
  intro p e s m args below meth c ls X hH hl
  have hl : lv_has ls 1 [(0, .ref x0)] := hl
  have X : Cx G p s m args meth c cX8_thrown 1 RX8 "thrown" (some .int) := X
  have hx := X.1
  have hb := X.2.1
  unfold f_X8_thrown at hf
  obtain ⟨H, hHe⟩ : ∃ z, z = s.heap := ⟨_, rfl⟩
  obtain ⟨locs, hLe⟩ : ∃ z, z = ([] : List Loc) := ⟨_, rfl⟩
  rw [← hHe, ← hLe] at hH
  rw [← hHe, ← hLe]
  refine lv_aload_n hx hb dX8_thrown_0 rfl (lv_at hl 0 rfl) ?_
  refine p_getI X hH fg_RX8_19 hf dX8_thrown_1 (fun v1 _ hf => ?_)
  exact p_iret X hH hf (by decide) (by decide) dX8_thrown_4
set_option maxRecDepth 100000 in
set_option maxHeartbeats 4000000 in
theorem c_X8_no (l : Launch) (G : GE) (x0 : Nat) (x1 : Int32) (h : PH) (rr : Int32) (hh : PH) (hf : f_X8_no G x0 x1 h = some (rr, hh)) : Ct l yX8_no cX8_no 2 (some .int) rm_X8_no G [.ref x0, .int x1] h (some (.int rr)) hh := by
  refine Ct.of (plainFor_of_name (by decide)) (Nat.le_of_ble_eq_true rfl) ?_
  intro p e s m args below meth c ls X hH hl
  have hl : lv_has ls 2 [(0, .ref x0), (1, .int x1)] := hl
  have X : Cx G p s m args meth c cX8_no 2 RX8 "no" (some .int) := X
  have hx := X.1
  have hb := X.2.1
  unfold f_X8_no at hf
  obtain ⟨H, hHe⟩ : ∃ z, z = s.heap := ⟨_, rfl⟩
  obtain ⟨locs, hLe⟩ : ∃ z, z = ([] : List Loc) := ⟨_, rfl⟩
  rw [← hHe, ← hLe] at hH
  rw [← hHe, ← hLe]
  refine lv_aload_n hx hb dX8_no_0 rfl (lv_at hl 0 rfl) ?_
  refine lv_iload_n hx hb dX8_no_1 rfl (lv_at hl 1 rfl) ?_
  refine p_put X hH fp_RX8_19 rfl rfl hf dX8_no_2 (fun h H locs hH hf => ?_)
  refine lv_iconst (v := 0) hx hb dX8_no_5 (by decide) ?_
  exact p_iret X hH hf (by decide) (by decide) dX8_no_6
set_option maxRecDepth 100000 in
set_option maxHeartbeats 4000000 in
theorem w_X8_isIn_b15 {G : GE} {p : Program} (l : Launch) {e : Env} {s : State} {m : MethodId} {args : Array Value} {below : List Frame} {meth : Method} {c : Code} {rr : Int32} {hh : PH} (X : Cx G p s m args meth c cX8_isIn 3 RX8 "isIn" (some .boolean)) (t0 : Int32) (h : PH) (H : Heap) (locs : List Loc) (ls : Array Slot) (hH : Hx G s h H locs) (hl : lv_has ls 3 []) (hf : f_X8_isIn_b15 G t0 h = some (rr, hh)) : W p l e rm_X8_isIn s m args below meth c H locs 0 0 (Fq G (some (.int rr)) hh below args s rm_X8_isIn.cells rm_X8_isIn.slots) (F0 m 15 ls [.int t0]) := by
  have hx := X.1
  have hb := X.2.1
  unfold f_X8_isIn_b15 at hf
  exact p_zret X hH hf (by decide) (by decide) dX8_isIn_15
set_option maxRecDepth 100000 in
set_option maxHeartbeats 4000000 in
theorem w_X8_isIn_b14 {G : GE} {p : Program} (l : Launch) {e : Env} {s : State} {m : MethodId} {args : Array Value} {below : List Frame} {meth : Method} {c : Code} {rr : Int32} {hh : PH} (X : Cx G p s m args meth c cX8_isIn 3 RX8 "isIn" (some .boolean))  (h : PH) (H : Heap) (locs : List Loc) (ls : Array Slot) (hH : Hx G s h H locs) (hl : lv_has ls 3 []) (hf : f_X8_isIn_b14 G  h = some (rr, hh)) : W p l e rm_X8_isIn s m args below meth c H locs 0 0 (Fq G (some (.int rr)) hh below args s rm_X8_isIn.cells rm_X8_isIn.slots) (F0 m 14 ls []) := by
  have hx := X.1
  have hb := X.2.1
  unfold f_X8_isIn_b14 at hf
  refine lv_iconst (v := 0) hx hb dX8_isIn_14 (by decide) ?_
  exact w_X8_isIn_b15 l X (0 : Int32) h H locs ls hH (lv_sub hl [] rfl) hf
set_option maxRecDepth 100000 in
set_option maxHeartbeats 4000000 in
theorem c_X8_isIn (l : Launch) (G : GE) (x0 : Int32) (x1 : Int32) (x2 : Int32) (h : PH) (rr : Int32) (hh : PH) (hf : f_X8_isIn G x0 x1 x2 h = some (rr, hh)) : Ct l yX8_isIn cX8_isIn 3 (some .boolean) rm_X8_isIn G [.int x0, .int x1, .int x2] h (some (.int rr)) hh := by
  refine Ct.of (plainFor_of_name (by decide)) (Nat.le_of_ble_eq_true rfl) ?_
  intro p e s m args below meth c ls X hH hl
  have hl : lv_has ls 3 [(0, .int x0), (1, .int x1), (2, .int x2)] := hl
  have X : Cx G p s m args meth c cX8_isIn 3 RX8 "isIn" (some .boolean) := X
  have hx := X.1
  have hb := X.2.1
  unfold f_X8_isIn at hf
  obtain ⟨H, hHe⟩ : ∃ z, z = s.heap := ⟨_, rfl⟩
  obtain ⟨locs, hLe⟩ : ∃ z, z = ([] : List Loc) := ⟨_, rfl⟩
  rw [← hHe, ← hLe] at hH
  rw [← hHe, ← hLe]
  refine lv_iload_n hx hb dX8_isIn_0 rfl (lv_at hl 0 rfl) ?_
  refine lv_iload_n hx hb dX8_isIn_1 rfl (lv_at hl 1 rfl) ?_
  refine p_icmp_lt X hf dX8_isIn_2 (tgt := 14) (by decide) (fun _ hf => ?_) (fun _ hf => ?_)
  · exact w_X8_isIn_b14 l X  h H locs ls hH (lv_sub hl [] rfl) hf
  · refine lv_iload_n hx hb dX8_isIn_5 rfl (lv_at hl 0 rfl) ?_
    refine lv_iload_n hx hb dX8_isIn_6 rfl (lv_at hl 2 rfl) ?_
    refine p_icmp_gt X hf dX8_isIn_7 (tgt := 14) (by decide) (fun _ hf => ?_) (fun _ hf => ?_)
    · exact w_X8_isIn_b14 l X  h H locs ls hH (lv_sub hl [] rfl) hf
    · refine lv_iconst (v := 1) hx hb dX8_isIn_10 (by decide) ?_
      refine lv_goto (tgt := 15) hx hb dX8_isIn_11 (by decide) ?_
      exact w_X8_isIn_b15 l X (1 : Int32) h H locs ls hH (lv_sub hl [] rfl) hf
set_option maxRecDepth 100000 in
set_option maxHeartbeats 4000000 in
theorem c_X8_layWind (l : Launch) (G : GE) (x0 : Nat) (x1 : Int32) (x2 : Int32) (x3 : Int32) (x4 : Int32) (h : PH) (rr : Unit) (hh : PH) (hf : f_X8_layWind G x0 x1 x2 x3 x4 h = some (rr, hh)) : Ct l yX8_layWind cX8_layWind 5 none rm_X8_layWind G [.ref x0, .int x1, .int x2, .int x3, .int x4] h none hh := by
  refine Ct.of (plainFor_of_name (by decide)) (Nat.le_of_ble_eq_true rfl) ?_
  intro p e s m args below meth c ls X hH hl
  have hl : lv_has ls 5 [(0, .ref x0), (1, .int x1), (2, .int x2), (3, .int x3), (4, .int x4)] := hl
  have X : Cx G p s m args meth c cX8_layWind 5 RX8 "layWind" none := X
  have hx := X.1
  have hb := X.2.1
  unfold f_X8_layWind at hf
  obtain ⟨H, hHe⟩ : ∃ z, z = s.heap := ⟨_, rfl⟩
  obtain ⟨locs, hLe⟩ : ∃ z, z = ([] : List Loc) := ⟨_, rfl⟩
  rw [← hHe, ← hLe] at hH
  rw [← hHe, ← hLe]
  refine lv_aload_n hx hb dX8_layWind_0 rfl (lv_at hl 0 rfl) ?_
  refine p_getR X hH fg_RX8_10 hf dX8_layWind_1 (fun v1 _ hf => ?_)
  refine p_getR X hH fg_RX8_23 hf dX8_layWind_4 (fun v2 _ hf => ?_)
  refine lv_iload_n hx hb dX8_layWind_7 rfl (lv_at hl 1 rfl) ?_
  refine lv_iload_n hx hb dX8_layWind_8 rfl (lv_at hl 2 rfl) ?_
  refine p_iast X hH hf dX8_layWind_9 (fun h H locs hH hf => ?_)
  refine lv_aload_n hx hb dX8_layWind_10 rfl (lv_at hl 0 rfl) ?_
  refine p_getR X hH fg_RX8_10 hf dX8_layWind_11 (fun v3 _ hf => ?_)
  refine p_getR X hH fg_RX8_27 hf dX8_layWind_14 (fun v4 _ hf => ?_)
  refine lv_iload_n hx hb dX8_layWind_17 rfl (lv_at hl 1 rfl) ?_
  refine lv_iload_n hx hb dX8_layWind_18 rfl (lv_at hl 3 rfl) ?_
  refine p_iast X hH hf dX8_layWind_19 (fun h H locs hH hf => ?_)
  refine lv_aload_n hx hb dX8_layWind_20 rfl (lv_at hl 0 rfl) ?_
  refine p_getR X hH fg_RX8_10 hf dX8_layWind_21 (fun v5 _ hf => ?_)
  refine p_getR X hH fg_RX8_30 hf dX8_layWind_24 (fun v6 _ hf => ?_)
  refine lv_iload_n hx hb dX8_layWind_27 rfl (lv_at hl 1 rfl) ?_
  refine lv_iload hx hb dX8_layWind_28 (lv_at hl 4 rfl) ?_
  refine p_zast X hH hf dX8_layWind_30 (fun h H locs hH hf => ?_)
  exact p_vret X hH hf (by decide) (by decide) dX8_layWind_31
set_option maxRecDepth 100000 in
set_option maxHeartbeats 4000000 in
theorem w_X8_beginWind_b25 {G : GE} {p : Program} (l : Launch) {e : Env} {s : State} {m : MethodId} {args : Array Value} {below : List Frame} {meth : Method} {c : Code} {rr : Int32} {hh : PH} (X : Cx G p s m args meth c cX8_beginWind 5 RX8 "beginWind" (some .int)) (x0 : Nat) (h : PH) (H : Heap) (locs : List Loc) (ls : Array Slot) (hH : Hx G s h H locs) (hl : lv_has ls 5 [(0, .ref x0)]) (hf : f_X8_beginWind_b25 G x0 h = some (rr, hh)) : W p l e rm_X8_beginWind s m args below meth c H locs 0 0 (Fq G (some (.int rr)) hh below args s rm_X8_beginWind.cells rm_X8_beginWind.slots) (F0 m 25 ls []) := by
  have hx := X.1
  have hb := X.2.1
  unfold f_X8_beginWind_b25 at hf
  refine lv_aload_n hx hb dX8_beginWind_25 rfl (lv_at hl 0 rfl) ?_
  refine lv_iconst (v := 1) hx hb dX8_beginWind_26 (by decide) ?_
  refine p_cVI (As := [.int (1 : Int32)]) (b := x0) (rest := []) (ci := 9) X hH rfl hf (fun _ _ e_ => c_X8_no l G x0 (1 : Int32) h _ _ e_) mv_X8_no lk_RX8_38 (by decide) rfl hl.1 (Nat.le_of_ble_eq_true rfl) dX8_beginWind_27 (c2 := 0) (s2 := 0) (by decide) (fun v6 h H locs hH hf => ?_)
  exact p_iret X hH hf (by decide) (by decide) dX8_beginWind_30
set_option maxRecDepth 100000 in
set_option maxHeartbeats 4000000 in
theorem c_X8_beginWind (l : Launch) (G : GE) (x0 : Nat) (x1 : Int32) (x2 : Int32) (x3 : Int32) (h : PH) (rr : Int32) (hh : PH) (hf : f_X8_beginWind G x0 x1 x2 x3 h = some (rr, hh)) : Ct l yX8_beginWind cX8_beginWind 5 (some .int) rm_X8_beginWind G [.ref x0, .int x1, .int x2, .int x3] h (some (.int rr)) hh := by
  refine Ct.of (plainFor_of_name (by decide)) (Nat.le_of_ble_eq_true rfl) ?_
  intro p e s m args below meth c ls X hH hl
  have hl : lv_has ls 5 [(0, .ref x0), (1, .int x1), (2, .int x2), (3, .int x3)] := hl
  have X : Cx G p s m args meth c cX8_beginWind 5 RX8 "beginWind" (some .int) := X
  have hx := X.1
  have hb := X.2.1
  unfold f_X8_beginWind at hf
  obtain ⟨H, hHe⟩ : ∃ z, z = s.heap := ⟨_, rfl⟩
  obtain ⟨locs, hLe⟩ : ∃ z, z = ([] : List Loc) := ⟨_, rfl⟩
  rw [← hHe, ← hLe] at hH
  rw [← hHe, ← hLe]
  refine lv_aload_n hx hb dX8_beginWind_0 rfl (lv_at hl 0 rfl) ?_
  refine lv_iconst (v := 0) hx hb dX8_beginWind_1 (by decide) ?_
  refine p_put X hH fp_RX8_19 rfl rfl hf dX8_beginWind_2 (fun h H locs hH hf => ?_)
  refine lv_iload_n hx hb dX8_beginWind_5 rfl (lv_at hl 1 rfl) ?_
  refine lv_iconst (v := 0) hx hb dX8_beginWind_6 (by decide) ?_
  refine lv_bipush (v := 15) hx hb dX8_beginWind_7 (by decide) ?_
  refine p_cSI (As := [.int x1, .int (0 : Int32), .int (15 : Int32)]) (rest := []) X hH hf (fun _ _ e_ => c_X8_isIn l G x1 (0 : Int32) (15 : Int32) h _ _ e_) ms_X8_isIn lk_RX8_34 (by decide) rfl hl.1 (Nat.le_of_ble_eq_true rfl) dX8_beginWind_9 (c2 := 0) (s2 := 0) (by decide) (fun v1 h H locs hH hf => ?_)
  refine p_if_eq X hf dX8_beginWind_12 (tgt := 25) (by decide) (fun _ hf => ?_) (fun _ hf => ?_)
  · exact w_X8_beginWind_b25 l X x0 h H locs ls hH (lv_sub hl [0] rfl) hf
  · refine lv_iload_n hx hb dX8_beginWind_15 rfl (lv_at hl 2 rfl) ?_
    refine lv_iconst (v := 0) hx hb dX8_beginWind_16 (by decide) ?_
    refine lv_bipush (v := 9) hx hb dX8_beginWind_17 (by decide) ?_
    refine p_cSI (As := [.int x2, .int (0 : Int32), .int (9 : Int32)]) (rest := []) X hH hf (fun _ _ e_ => c_X8_isIn l G x2 (0 : Int32) (9 : Int32) h _ _ e_) ms_X8_isIn lk_RX8_34 (by decide) rfl hl.1 (Nat.le_of_ble_eq_true rfl) dX8_beginWind_19 (c2 := 0) (s2 := 0) (by decide) (fun v2 h H locs hH hf => ?_)
    refine p_if_ne X hf dX8_beginWind_22 (tgt := 31) (by decide) (fun _ hf => ?_) (fun _ hf => ?_)
    · refine lv_aload_n hx hb dX8_beginWind_31 rfl (lv_at hl 0 rfl) ?_
      refine p_getR X hH fg_RX8_10 hf dX8_beginWind_32 (fun v3 _ hf => ?_)
      refine p_getI X hH fg_RX8_42 hf dX8_beginWind_35 (fun v4 _ hf => ?_)
      refine lv_istore (lv' := [(4, .int v4), (0, .ref x0), (1, .int x1), (2, .int x2), (3, .int x3)]) hx hb dX8_beginWind_38 hl (by decide) rfl (fun ls hl => ?_)
      refine lv_aload_n hx hb dX8_beginWind_40 rfl (lv_at hl 1 rfl) ?_
      refine lv_iconst (v := 0) hx hb dX8_beginWind_41 (by decide) ?_
      refine lv_iload_n hx hb dX8_beginWind_42 rfl (lv_at hl 2 rfl) ?_
      refine lv_iload_n hx hb dX8_beginWind_43 rfl (lv_at hl 3 rfl) ?_
      refine lv_iload_n hx hb dX8_beginWind_44 rfl (lv_at hl 4 rfl) ?_
      refine p_cVV (As := [.int (0 : Int32), .int x1, .int x2, .int x3]) (b := x0) (rest := []) (ci := 9) X hH rfl hf (fun _ _ e_ => c_X8_layWind l G x0 (0 : Int32) x1 x2 x3 h _ _ e_) mv_X8_layWind lk_RX8_45 (by decide) rfl hl.1 (Nat.le_of_ble_eq_true rfl) dX8_beginWind_45 (c2 := 0) (s2 := 0) (by decide) (fun _ h H locs hH hf => ?_)
      refine lv_aload_n hx hb dX8_beginWind_48 rfl (lv_at hl 1 rfl) ?_
      refine p_getR X hH fg_RX8_10 hf dX8_beginWind_49 (fun v5 _ hf => ?_)
      refine lv_iconst (v := 1) hx hb dX8_beginWind_52 (by decide) ?_
      refine p_put X hH fp_RX8_42 rfl rfl hf dX8_beginWind_53 (fun h H locs hH hf => ?_)
      refine lv_iload hx hb dX8_beginWind_56 (lv_at hl 0 rfl) ?_
      exact p_iret X hH hf (by decide) (by decide) dX8_beginWind_58
    · exact w_X8_beginWind_b25 l X x0 h H locs ls hH (lv_sub hl [0] rfl) hf
set_option maxRecDepth 100000 in
set_option maxHeartbeats 4000000 in
theorem w_X8_addWind_b25 {G : GE} {p : Program} (l : Launch) {e : Env} {s : State} {m : MethodId} {args : Array Value} {below : List Frame} {meth : Method} {c : Code} {rr : Int32} {hh : PH} (X : Cx G p s m args meth c cX8_addWind 4 RX8 "addWind" (some .int)) (x0 : Nat) (h : PH) (H : Heap) (locs : List Loc) (ls : Array Slot) (hH : Hx G s h H locs) (hl : lv_has ls 4 [(0, .ref x0)]) (hf : f_X8_addWind_b25 G x0 h = some (rr, hh)) : W p l e rm_X8_addWind s m args below meth c H locs 0 0 (Fq G (some (.int rr)) hh below args s rm_X8_addWind.cells rm_X8_addWind.slots) (F0 m 25 ls []) := by
  have hx := X.1
  have hb := X.2.1
  unfold f_X8_addWind_b25 at hf
  refine lv_aload_n hx hb dX8_addWind_25 rfl (lv_at hl 0 rfl) ?_
  refine lv_iconst (v := 1) hx hb dX8_addWind_26 (by decide) ?_
  refine p_cVI (As := [.int (1 : Int32)]) (b := x0) (rest := []) (ci := 9) X hH rfl hf (fun _ _ e_ => c_X8_no l G x0 (1 : Int32) h _ _ e_) mv_X8_no lk_RX8_38 (by decide) rfl hl.1 (Nat.le_of_ble_eq_true rfl) dX8_addWind_27 (c2 := 0) (s2 := 0) (by decide) (fun v12 h H locs hH hf => ?_)
  exact p_iret X hH hf (by decide) (by decide) dX8_addWind_30
set_option maxRecDepth 100000 in
set_option maxHeartbeats 4000000 in
theorem c_X8_addWind (l : Launch) (G : GE) (x0 : Nat) (x1 : Int32) (x2 : Int32) (x3 : Int32) (h : PH) (rr : Int32) (hh : PH) (hf : f_X8_addWind G x0 x1 x2 x3 h = some (rr, hh)) : Ct l yX8_addWind cX8_addWind 4 (some .int) rm_X8_addWind G [.ref x0, .int x1, .int x2, .int x3] h (some (.int rr)) hh := by
  refine Ct.of (plainFor_of_name (by decide)) (Nat.le_of_ble_eq_true rfl) ?_
  intro p e s m args below meth c ls X hH hl
  have hl : lv_has ls 4 [(0, .ref x0), (1, .int x1), (2, .int x2), (3, .int x3)] := hl
  have X : Cx G p s m args meth c cX8_addWind 4 RX8 "addWind" (some .int) := X
  have hx := X.1
  have hb := X.2.1
  unfold f_X8_addWind at hf
  obtain ⟨H, hHe⟩ : ∃ z, z = s.heap := ⟨_, rfl⟩
  obtain ⟨locs, hLe⟩ : ∃ z, z = ([] : List Loc) := ⟨_, rfl⟩
  rw [← hHe, ← hLe] at hH
  rw [← hHe, ← hLe]
  refine lv_aload_n hx hb dX8_addWind_0 rfl (lv_at hl 0 rfl) ?_
  refine lv_iconst (v := 0) hx hb dX8_addWind_1 (by decide) ?_
  refine p_put X hH fp_RX8_19 rfl rfl hf dX8_addWind_2 (fun h H locs hH hf => ?_)
  refine lv_iload_n hx hb dX8_addWind_5 rfl (lv_at hl 1 rfl) ?_
  refine lv_iconst (v := 0) hx hb dX8_addWind_6 (by decide) ?_
  refine lv_bipush (v := 15) hx hb dX8_addWind_7 (by decide) ?_
  refine p_cSI (As := [.int x1, .int (0 : Int32), .int (15 : Int32)]) (rest := []) X hH hf (fun _ _ e_ => c_X8_isIn l G x1 (0 : Int32) (15 : Int32) h _ _ e_) ms_X8_isIn lk_RX8_34 (by decide) rfl hl.1 (Nat.le_of_ble_eq_true rfl) dX8_addWind_9 (c2 := 0) (s2 := 0) (by decide) (fun v1 h H locs hH hf => ?_)
  refine p_if_eq X hf dX8_addWind_12 (tgt := 25) (by decide) (fun _ hf => ?_) (fun _ hf => ?_)
  · exact w_X8_addWind_b25 l X x0 h H locs ls hH (lv_sub hl [0] rfl) hf
  · refine lv_iload_n hx hb dX8_addWind_15 rfl (lv_at hl 2 rfl) ?_
    refine lv_iconst (v := 0) hx hb dX8_addWind_16 (by decide) ?_
    refine lv_bipush (v := 9) hx hb dX8_addWind_17 (by decide) ?_
    refine p_cSI (As := [.int x2, .int (0 : Int32), .int (9 : Int32)]) (rest := []) X hH hf (fun _ _ e_ => c_X8_isIn l G x2 (0 : Int32) (9 : Int32) h _ _ e_) ms_X8_isIn lk_RX8_34 (by decide) rfl hl.1 (Nat.le_of_ble_eq_true rfl) dX8_addWind_19 (c2 := 0) (s2 := 0) (by decide) (fun v2 h H locs hH hf => ?_)
    refine p_if_ne X hf dX8_addWind_22 (tgt := 31) (by decide) (fun _ hf => ?_) (fun _ hf => ?_)
    · refine lv_aload_n hx hb dX8_addWind_31 rfl (lv_at hl 0 rfl) ?_
      refine p_getR X hH fg_RX8_10 hf dX8_addWind_32 (fun v3 _ hf => ?_)
      refine p_getI X hH fg_RX8_42 hf dX8_addWind_35 (fun v4 _ hf => ?_)
      refine lv_bipush (v := 24) hx hb dX8_addWind_38 (by decide) ?_
      refine p_icmp_ne X hf dX8_addWind_40 (tgt := 49) (by decide) (fun _ hf => ?_) (fun _ hf => ?_)
      · refine lv_aload_n hx hb dX8_addWind_49 rfl (lv_at hl 0 rfl) ?_
        refine lv_aload_n hx hb dX8_addWind_50 rfl (lv_at hl 0 rfl) ?_
        refine p_getR X hH fg_RX8_10 hf dX8_addWind_51 (fun v5 _ hf => ?_)
        refine p_getI X hH fg_RX8_42 hf dX8_addWind_54 (fun v6 _ hf => ?_)
        refine lv_iload_n hx hb dX8_addWind_57 rfl (lv_at hl 1 rfl) ?_
        refine lv_iload_n hx hb dX8_addWind_58 rfl (lv_at hl 2 rfl) ?_
        refine lv_iload_n hx hb dX8_addWind_59 rfl (lv_at hl 3 rfl) ?_
        refine p_cVV (As := [.int v6, .int x1, .int x2, .int x3]) (b := x0) (rest := []) (ci := 9) X hH rfl hf (fun _ _ e_ => c_X8_layWind l G x0 v6 x1 x2 x3 h _ _ e_) mv_X8_layWind lk_RX8_45 (by decide) rfl hl.1 (Nat.le_of_ble_eq_true rfl) dX8_addWind_60 (c2 := 0) (s2 := 0) (by decide) (fun _ h H locs hH hf => ?_)
        refine lv_aload_n hx hb dX8_addWind_63 rfl (lv_at hl 0 rfl) ?_
        refine p_getR X hH fg_RX8_10 hf dX8_addWind_64 (fun v7 _ hf => ?_)
        refine lv_dup hx hb dX8_addWind_67 rfl ?_
        refine p_getI X hH fg_RX8_42 hf dX8_addWind_68 (fun v8 _ hf => ?_)
        refine lv_iconst (v := 1) hx hb dX8_addWind_71 (by decide) ?_
        refine lv_iadd hx hb dX8_addWind_72 ?_
        refine p_put X hH fp_RX8_42 rfl rfl hf dX8_addWind_73 (fun h H locs hH hf => ?_)
        refine lv_aload_n hx hb dX8_addWind_76 rfl (lv_at hl 0 rfl) ?_
        refine p_getR X hH fg_RX8_10 hf dX8_addWind_77 (fun v9 _ hf => ?_)
        refine p_getI X hH fg_RX8_42 hf dX8_addWind_80 (fun v10 _ hf => ?_)
        exact p_iret X hH hf (by decide) (by decide) dX8_addWind_83
      · refine lv_aload_n hx hb dX8_addWind_43 rfl (lv_at hl 0 rfl) ?_
        refine lv_iconst (v := 2) hx hb dX8_addWind_44 (by decide) ?_
        refine p_cVI (As := [.int (2 : Int32)]) (b := x0) (rest := []) (ci := 9) X hH rfl hf (fun _ _ e_ => c_X8_no l G x0 (2 : Int32) h _ _ e_) mv_X8_no lk_RX8_38 (by decide) rfl hl.1 (Nat.le_of_ble_eq_true rfl) dX8_addWind_45 (c2 := 0) (s2 := 0) (by decide) (fun v11 h H locs hH hf => ?_)
        exact p_iret X hH hf (by decide) (by decide) dX8_addWind_48
    · exact w_X8_addWind_b25 l X x0 h H locs ls hH (lv_sub hl [0] rfl) hf
set_option maxRecDepth 100000 in
set_option maxHeartbeats 4000000 in
theorem w_X8_windTold_b50 {G : GE} {p : Program} (l : Launch) {e : Env} {s : State} {m : MethodId} {args : Array Value} {below : List Frame} {meth : Method} {c : Code} {rr : Int32} {hh : PH} (X : Cx G p s m args meth c cX8_windTold 3 RX8 "windTold" (some .int)) (t0 : Int32) (h : PH) (H : Heap) (locs : List Loc) (ls : Array Slot) (hH : Hx G s h H locs) (hl : lv_has ls 3 []) (hf : f_X8_windTold_b50 G t0 h = some (rr, hh)) : W p l e rm_X8_windTold s m args below meth c H locs 0 0 (Fq G (some (.int rr)) hh below args s rm_X8_windTold.cells rm_X8_windTold.slots) (F0 m 50 ls [.int t0]) := by
  have hx := X.1
  have hb := X.2.1
  unfold f_X8_windTold_b50 at hf
  exact p_iret X hH hf (by decide) (by decide) dX8_windTold_50
set_option maxRecDepth 100000 in
set_option maxHeartbeats 4000000 in
theorem c_X8_windTold (l : Launch) (G : GE) (x0 : Nat) (x1 : Int32) (x2 : Int32) (h : PH) (rr : Int32) (hh : PH) (hf : f_X8_windTold G x0 x1 x2 h = some (rr, hh)) : Ct l yX8_windTold cX8_windTold 3 (some .int) rm_X8_windTold G [.ref x0, .int x1, .int x2] h (some (.int rr)) hh := by
  refine Ct.of (plainFor_of_name (by decide)) (Nat.le_of_ble_eq_true rfl) ?_
  intro p e s m args below meth c ls X hH hl
  have hl : lv_has ls 3 [(0, .ref x0), (1, .int x1), (2, .int x2)] := hl
  have X : Cx G p s m args meth c cX8_windTold 3 RX8 "windTold" (some .int) := X
  have hx := X.1
  have hb := X.2.1
  unfold f_X8_windTold at hf
  obtain ⟨H, hHe⟩ : ∃ z, z = s.heap := ⟨_, rfl⟩
  obtain ⟨locs, hLe⟩ : ∃ z, z = ([] : List Loc) := ⟨_, rfl⟩
  rw [← hHe, ← hLe] at hH
  rw [← hHe, ← hLe]
  refine lv_iload_n hx hb dX8_windTold_0 rfl (lv_at hl 2 rfl) ?_
  refine p_if_ne X hf dX8_windTold_1 (tgt := 16) (by decide) (fun _ hf => ?_) (fun _ hf => ?_)
  · refine lv_iload_n hx hb dX8_windTold_16 rfl (lv_at hl 2 rfl) ?_
    refine lv_iconst (v := 1) hx hb dX8_windTold_17 (by decide) ?_
    refine p_icmp_ne X hf dX8_windTold_18 (tgt := 33) (by decide) (fun _ hf => ?_) (fun _ hf => ?_)
    · refine lv_aload_n hx hb dX8_windTold_33 rfl (lv_at hl 0 rfl) ?_
      refine p_getR X hH fg_RX8_10 hf dX8_windTold_34 (fun v1 _ hf => ?_)
      refine p_getR X hH fg_RX8_30 hf dX8_windTold_37 (fun v2 _ hf => ?_)
      refine lv_iload_n hx hb dX8_windTold_40 rfl (lv_at hl 1 rfl) ?_
      refine p_zald X hH hf dX8_windTold_41 (fun v3 _ hf => ?_)
      refine p_if_eq X hf dX8_windTold_42 (tgt := 49) (by decide) (fun _ hf => ?_) (fun _ hf => ?_)
      · refine lv_iconst (v := 0) hx hb dX8_windTold_49 (by decide) ?_
        exact w_X8_windTold_b50 l X (0 : Int32) h H locs ls hH (lv_sub hl [] rfl) hf
      · refine lv_iconst (v := 1) hx hb dX8_windTold_45 (by decide) ?_
        refine lv_goto (tgt := 50) hx hb dX8_windTold_46 (by decide) ?_
        exact w_X8_windTold_b50 l X (1 : Int32) h H locs ls hH (lv_sub hl [] rfl) hf
    · refine lv_aload_n hx hb dX8_windTold_21 rfl (lv_at hl 0 rfl) ?_
      refine p_getR X hH fg_RX8_10 hf dX8_windTold_22 (fun v4 _ hf => ?_)
      refine p_getR X hH fg_RX8_27 hf dX8_windTold_25 (fun v5 _ hf => ?_)
      refine lv_iload_n hx hb dX8_windTold_28 rfl (lv_at hl 1 rfl) ?_
      refine p_iald X hH hf dX8_windTold_29 (fun v6 _ hf => ?_)
      refine lv_goto (tgt := 50) hx hb dX8_windTold_30 (by decide) ?_
      exact w_X8_windTold_b50 l X v6 h H locs ls hH (lv_sub hl [] rfl) hf
  · refine lv_aload_n hx hb dX8_windTold_4 rfl (lv_at hl 0 rfl) ?_
    refine p_getR X hH fg_RX8_10 hf dX8_windTold_5 (fun v7 _ hf => ?_)
    refine p_getR X hH fg_RX8_23 hf dX8_windTold_8 (fun v8 _ hf => ?_)
    refine lv_iload_n hx hb dX8_windTold_11 rfl (lv_at hl 1 rfl) ?_
    refine p_iald X hH hf dX8_windTold_12 (fun v9 _ hf => ?_)
    refine lv_goto (tgt := 50) hx hb dX8_windTold_13 (by decide) ?_
    exact w_X8_windTold_b50 l X v9 h H locs ls hH (lv_sub hl [] rfl) hf
set_option maxRecDepth 100000 in
set_option maxHeartbeats 4000000 in
theorem c_X8_wind (l : Launch) (G : GE) (x0 : Nat) (x1 : Int32) (x2 : Int32) (h : PH) (rr : Int32) (hh : PH) (hf : f_X8_wind G x0 x1 x2 h = some (rr, hh)) : Ct l yX8_wind cX8_wind 3 (some .int) rm_X8_wind G [.ref x0, .int x1, .int x2] h (some (.int rr)) hh := by
  refine Ct.of (plainFor_of_name (by decide)) (Nat.le_of_ble_eq_true rfl) ?_
  intro p e s m args below meth c ls X hH hl
  have hl : lv_has ls 3 [(0, .ref x0), (1, .int x1), (2, .int x2)] := hl
  have X : Cx G p s m args meth c cX8_wind 3 RX8 "wind" (some .int) := X
  have hx := X.1
  have hb := X.2.1
  unfold f_X8_wind at hf
  obtain ⟨H, hHe⟩ : ∃ z, z = s.heap := ⟨_, rfl⟩
  obtain ⟨locs, hLe⟩ : ∃ z, z = ([] : List Loc) := ⟨_, rfl⟩
  rw [← hHe, ← hLe] at hH
  rw [← hHe, ← hLe]
  refine lv_aload_n hx hb dX8_wind_0 rfl (lv_at hl 0 rfl) ?_
  refine lv_iconst (v := 0) hx hb dX8_wind_1 (by decide) ?_
  refine p_put X hH fp_RX8_19 rfl rfl hf dX8_wind_2 (fun h H locs hH hf => ?_)
  refine lv_iload_n hx hb dX8_wind_5 rfl (lv_at hl 1 rfl) ?_
  refine p_if_ge X hf dX8_wind_6 (tgt := 15) (by decide) (fun _ hf => ?_) (fun _ hf => ?_)
  · refine lv_iload_n hx hb dX8_wind_15 rfl (lv_at hl 2 rfl) ?_
    refine lv_iconst (v := 0) hx hb dX8_wind_16 (by decide) ?_
    refine lv_iconst (v := 2) hx hb dX8_wind_17 (by decide) ?_
    refine p_cSI (As := [.int x2, .int (0 : Int32), .int (2 : Int32)]) (rest := []) X hH hf (fun _ _ e_ => c_X8_isIn l G x2 (0 : Int32) (2 : Int32) h _ _ e_) ms_X8_isIn lk_RX8_34 (by decide) rfl hl.1 (Nat.le_of_ble_eq_true rfl) dX8_wind_18 (c2 := 0) (s2 := 0) (by decide) (fun v1 h H locs hH hf => ?_)
    refine p_if_ne X hf dX8_wind_21 (tgt := 30) (by decide) (fun _ hf => ?_) (fun _ hf => ?_)
    · refine lv_aload_n hx hb dX8_wind_30 rfl (lv_at hl 0 rfl) ?_
      refine lv_iload_n hx hb dX8_wind_31 rfl (lv_at hl 1 rfl) ?_
      refine lv_aload_n hx hb dX8_wind_32 rfl (lv_at hl 0 rfl) ?_
      refine p_getR X hH fg_RX8_10 hf dX8_wind_33 (fun v2 _ hf => ?_)
      refine p_getI X hH fg_RX8_42 hf dX8_wind_36 (fun v3 _ hf => ?_)
      refine p_irem X hf dX8_wind_39 (fun hf => ?_)
      refine lv_iload_n hx hb dX8_wind_40 rfl (lv_at hl 2 rfl) ?_
      refine p_cVI (As := [.int (x1 - x1 / v3 * v3), .int x2]) (b := x0) (rest := []) (ci := 9) X hH rfl hf (fun _ _ e_ => c_X8_windTold l G x0 (x1 - x1 / v3 * v3) x2 h _ _ e_) mv_X8_windTold lk_RX8_49 (by decide) rfl hl.1 (Nat.le_of_ble_eq_true rfl) dX8_wind_41 (c2 := 0) (s2 := 0) (by decide) (fun v4 h H locs hH hf => ?_)
      exact p_iret X hH hf (by decide) (by decide) dX8_wind_44
    · refine lv_aload_n hx hb dX8_wind_24 rfl (lv_at hl 0 rfl) ?_
      refine lv_iconst (v := 2) hx hb dX8_wind_25 (by decide) ?_
      refine p_cVI (As := [.int (2 : Int32)]) (b := x0) (rest := []) (ci := 9) X hH rfl hf (fun _ _ e_ => c_X8_no l G x0 (2 : Int32) h _ _ e_) mv_X8_no lk_RX8_38 (by decide) rfl hl.1 (Nat.le_of_ble_eq_true rfl) dX8_wind_26 (c2 := 0) (s2 := 0) (by decide) (fun v5 h H locs hH hf => ?_)
      exact p_iret X hH hf (by decide) (by decide) dX8_wind_29
  · refine lv_aload_n hx hb dX8_wind_9 rfl (lv_at hl 0 rfl) ?_
    refine lv_iconst (v := 1) hx hb dX8_wind_10 (by decide) ?_
    refine p_cVI (As := [.int (1 : Int32)]) (b := x0) (rest := []) (ci := 9) X hH rfl hf (fun _ _ e_ => c_X8_no l G x0 (1 : Int32) h _ _ e_) mv_X8_no lk_RX8_38 (by decide) rfl hl.1 (Nat.le_of_ble_eq_true rfl) dX8_wind_11 (c2 := 0) (s2 := 0) (by decide) (fun v6 h H locs hH hf => ?_)
    exact p_iret X hH hf (by decide) (by decide) dX8_wind_14
set_option maxRecDepth 100000 in
set_option maxHeartbeats 4000000 in
theorem w_X8_setUp_b68 {G : GE} {p : Program} (l : Launch) {e : Env} {s : State} {m : MethodId} {args : Array Value} {below : List Frame} {meth : Method} {c : Code} {rr : Int32} {hh : PH} (X : Cx G p s m args meth c cX8_setUp 9 RX8 "setUp" (some .int)) (x0 : Nat) (h : PH) (H : Heap) (locs : List Loc) (ls : Array Slot) (hH : Hx G s h H locs) (hl : lv_has ls 9 [(0, .ref x0)]) (hf : f_X8_setUp_b68 G x0 h = some (rr, hh)) : W p l e rm_X8_setUp s m args below meth c H locs 0 0 (Fq G (some (.int rr)) hh below args s rm_X8_setUp.cells rm_X8_setUp.slots) (F0 m 68 ls []) := by
  have hx := X.1
  have hb := X.2.1
  unfold f_X8_setUp_b68 at hf
  refine lv_aload_n hx hb dX8_setUp_68 rfl (lv_at hl 0 rfl) ?_
  refine lv_iconst (v := 1) hx hb dX8_setUp_69 (by decide) ?_
  refine p_cVI (As := [.int (1 : Int32)]) (b := x0) (rest := []) (ci := 9) X hH rfl hf (fun _ _ e_ => c_X8_no l G x0 (1 : Int32) h _ _ e_) mv_X8_no lk_RX8_38 (by decide) rfl hl.1 (Nat.le_of_ble_eq_true rfl) dX8_setUp_70 (c2 := 0) (s2 := 0) (by decide) (fun v9 h H locs hH hf => ?_)
  exact p_iret X hH hf (by decide) (by decide) dX8_setUp_73
set_option maxRecDepth 100000 in
set_option maxHeartbeats 4000000 in
theorem w_X8_setUp_b146 {G : GE} {p : Program} (l : Launch) {e : Env} {s : State} {m : MethodId} {args : Array Value} {below : List Frame} {meth : Method} {c : Code} {rr : Int32} {hh : PH} (X : Cx G p s m args meth c cX8_setUp 9 RX8 "setUp" (some .int)) (k96 : Nat → Int32 → Int32 → Int32 → Int32 → Int32 → Int32 → Int32 → Int32 → PH → Option (Int32 × PH)) (ik96 : ∀ (x0 : Nat) (x1 : Int32) (x2 : Int32) (x3 : Int32) (x4 : Int32) (x5 : Int32) (x6 : Int32) (x7 : Int32) (x8 : Int32) (h : PH) (H : Heap) (locs : List Loc) (ls : Array Slot), Hx G s h H locs → lv_has ls 9 [(0, .ref x0), (1, .int x1), (2, .int x2), (3, .int x3), (4, .int x4), (5, .int x5), (6, .int x6), (7, .int x7), (8, .int x8)] → k96 x0 x1 x2 x3 x4 x5 x6 x7 x8 h = some (rr, hh) → W p l e rm_X8_setUp s m args below meth c H locs 0 0 (Fq G (some (.int rr)) hh below args s rm_X8_setUp.cells rm_X8_setUp.slots) (F0 m 96 ls [])) (x0 : Nat) (x1 : Int32) (x2 : Int32) (x3 : Int32) (x4 : Int32) (x5 : Int32) (x6 : Int32) (x8 : Int32) (t0 : Int32) (h : PH) (H : Heap) (locs : List Loc) (ls : Array Slot) (hH : Hx G s h H locs) (hl : lv_has ls 9 [(0, .ref x0), (1, .int x1), (2, .int x2), (3, .int x3), (4, .int x4), (5, .int x5), (6, .int x6), (8, .int x8)]) (hf : f_X8_setUp_b146 G k96 x0 x1 x2 x3 x4 x5 x6 x8 t0 h = some (rr, hh)) : W p l e rm_X8_setUp s m args below meth c H locs 0 0 (Fq G (some (.int rr)) hh below args s rm_X8_setUp.cells rm_X8_setUp.slots) (F0 m 146 ls [.int t0]) := by
  have hx := X.1
  have hb := X.2.1
  unfold f_X8_setUp_b146 at hf
  refine lv_istore (lv' := [(7, .int t0), (0, .ref x0), (1, .int x1), (2, .int x2), (3, .int x3), (4, .int x4), (5, .int x5), (6, .int x6), (8, .int x8)]) hx hb dX8_setUp_146 hl (by decide) rfl (fun ls hl => ?_)
  refine lv_iinc (v := (x8 + (1 : Int32))) (lv' := [(8, .int (x8 + (1 : Int32))), (7, .int t0), (0, .ref x0), (1, .int x1), (2, .int x2), (3, .int x3), (4, .int x4), (5, .int x5), (6, .int x6)]) hx hb dX8_setUp_148 hl (k := 8) rfl rfl (by decide) rfl (fun ls hl => ?_)
  refine lv_goto (tgt := 96) hx hb dX8_setUp_151 (by decide) ?_
  exact ik96 x0 x1 x2 x3 x4 x5 x6 t0 (x8 + (1 : Int32)) h H locs ls hH (lv_sub hl [2, 3, 4, 5, 6, 7, 8, 1, 0] rfl) hf
set_option maxRecDepth 100000 in
set_option maxHeartbeats 4000000 in
theorem w_X8_setUp_b145 {G : GE} {p : Program} (l : Launch) {e : Env} {s : State} {m : MethodId} {args : Array Value} {below : List Frame} {meth : Method} {c : Code} {rr : Int32} {hh : PH} (X : Cx G p s m args meth c cX8_setUp 9 RX8 "setUp" (some .int)) (k96 : Nat → Int32 → Int32 → Int32 → Int32 → Int32 → Int32 → Int32 → Int32 → PH → Option (Int32 × PH)) (ik96 : ∀ (x0 : Nat) (x1 : Int32) (x2 : Int32) (x3 : Int32) (x4 : Int32) (x5 : Int32) (x6 : Int32) (x7 : Int32) (x8 : Int32) (h : PH) (H : Heap) (locs : List Loc) (ls : Array Slot), Hx G s h H locs → lv_has ls 9 [(0, .ref x0), (1, .int x1), (2, .int x2), (3, .int x3), (4, .int x4), (5, .int x5), (6, .int x6), (7, .int x7), (8, .int x8)] → k96 x0 x1 x2 x3 x4 x5 x6 x7 x8 h = some (rr, hh) → W p l e rm_X8_setUp s m args below meth c H locs 0 0 (Fq G (some (.int rr)) hh below args s rm_X8_setUp.cells rm_X8_setUp.slots) (F0 m 96 ls [])) (x0 : Nat) (x1 : Int32) (x2 : Int32) (x3 : Int32) (x4 : Int32) (x5 : Int32) (x6 : Int32) (x8 : Int32) (h : PH) (H : Heap) (locs : List Loc) (ls : Array Slot) (hH : Hx G s h H locs) (hl : lv_has ls 9 [(0, .ref x0), (1, .int x1), (2, .int x2), (3, .int x3), (4, .int x4), (5, .int x5), (6, .int x6), (8, .int x8)]) (hf : f_X8_setUp_b145 G k96 x0 x1 x2 x3 x4 x5 x6 x8 h = some (rr, hh)) : W p l e rm_X8_setUp s m args below meth c H locs 0 0 (Fq G (some (.int rr)) hh below args s rm_X8_setUp.cells rm_X8_setUp.slots) (F0 m 145 ls []) := by
  have hx := X.1
  have hb := X.2.1
  unfold f_X8_setUp_b145 at hf
  refine lv_iconst (v := 0) hx hb dX8_setUp_145 (by decide) ?_
  exact w_X8_setUp_b146 l X k96 ik96 x0 x1 x2 x3 x4 x5 x6 x8 (0 : Int32) h H locs ls hH (lv_sub hl [0, 1, 2, 3, 4, 5, 6, 7] rfl) hf
set_option maxRecDepth 100000 in
set_option maxHeartbeats 4000000 in
theorem w_X8_setUp_b141 {G : GE} {p : Program} (l : Launch) {e : Env} {s : State} {m : MethodId} {args : Array Value} {below : List Frame} {meth : Method} {c : Code} {rr : Int32} {hh : PH} (X : Cx G p s m args meth c cX8_setUp 9 RX8 "setUp" (some .int)) (k96 : Nat → Int32 → Int32 → Int32 → Int32 → Int32 → Int32 → Int32 → Int32 → PH → Option (Int32 × PH)) (ik96 : ∀ (x0 : Nat) (x1 : Int32) (x2 : Int32) (x3 : Int32) (x4 : Int32) (x5 : Int32) (x6 : Int32) (x7 : Int32) (x8 : Int32) (h : PH) (H : Heap) (locs : List Loc) (ls : Array Slot), Hx G s h H locs → lv_has ls 9 [(0, .ref x0), (1, .int x1), (2, .int x2), (3, .int x3), (4, .int x4), (5, .int x5), (6, .int x6), (7, .int x7), (8, .int x8)] → k96 x0 x1 x2 x3 x4 x5 x6 x7 x8 h = some (rr, hh) → W p l e rm_X8_setUp s m args below meth c H locs 0 0 (Fq G (some (.int rr)) hh below args s rm_X8_setUp.cells rm_X8_setUp.slots) (F0 m 96 ls [])) (x0 : Nat) (x1 : Int32) (x2 : Int32) (x3 : Int32) (x4 : Int32) (x5 : Int32) (x6 : Int32) (x8 : Int32) (h : PH) (H : Heap) (locs : List Loc) (ls : Array Slot) (hH : Hx G s h H locs) (hl : lv_has ls 9 [(0, .ref x0), (1, .int x1), (2, .int x2), (3, .int x3), (4, .int x4), (5, .int x5), (6, .int x6), (8, .int x8)]) (hf : f_X8_setUp_b141 G k96 x0 x1 x2 x3 x4 x5 x6 x8 h = some (rr, hh)) : W p l e rm_X8_setUp s m args below meth c H locs 0 0 (Fq G (some (.int rr)) hh below args s rm_X8_setUp.cells rm_X8_setUp.slots) (F0 m 141 ls []) := by
  have hx := X.1
  have hb := X.2.1
  unfold f_X8_setUp_b141 at hf
  refine lv_iconst (v := 1) hx hb dX8_setUp_141 (by decide) ?_
  refine lv_goto (tgt := 146) hx hb dX8_setUp_142 (by decide) ?_
  exact w_X8_setUp_b146 l X k96 ik96 x0 x1 x2 x3 x4 x5 x6 x8 (1 : Int32) h H locs ls hH (lv_sub hl [0, 1, 2, 3, 4, 5, 6, 7] rfl) hf
set_option maxRecDepth 100000 in
set_option maxHeartbeats 4000000 in
theorem w_X8_setUp_b96 {G : GE} {p : Program} (l : Launch) {e : Env} {s : State} {m : MethodId} {args : Array Value} {below : List Frame} {meth : Method} {c : Code} {rr : Int32} {hh : PH} (X : Cx G p s m args meth c cX8_setUp 9 RX8 "setUp" (some .int)) : ∀ (n : Nat) (x0 : Nat) (x1 : Int32) (x2 : Int32) (x3 : Int32) (x4 : Int32) (x5 : Int32) (x6 : Int32) (x7 : Int32) (x8 : Int32) (h : PH) (H : Heap) (locs : List Loc) (ls : Array Slot) (hH : Hx G s h H locs) (hl : lv_has ls 9 [(0, .ref x0), (1, .int x1), (2, .int x2), (3, .int x3), (4, .int x4), (5, .int x5), (6, .int x6), (7, .int x7), (8, .int x8)]) (hf : f_X8_setUp_b96 G n x0 x1 x2 x3 x4 x5 x6 x7 x8 h = some (rr, hh)), W p l e rm_X8_setUp s m args below meth c H locs 0 0 (Fq G (some (.int rr)) hh below args s rm_X8_setUp.cells rm_X8_setUp.slots) (F0 m 96 ls []) := by
  have hx := X.1
  have hb := X.2.1
  intro n
  induction n with
  | zero =>
    intro x0 x1 x2 x3 x4 x5 x6 x7 x8 h H locs ls hH hl hf
    have hf : (none : Option (Int32 × PH)) = some (rr, hh) := hf
    cases hf
  | succ n ih =>
    intro x0 x1 x2 x3 x4 x5 x6 x7 x8 h H locs ls hH hl hf
    have hf : f_X8_setUp_b96_body G (f_X8_setUp_b96 G n) x0 x1 x2 x3 x4 x5 x6 x7 x8 h = some (rr, hh) := hf
    generalize f_X8_setUp_b96 G n = k96 at hf ih
    have ik96 := ih
    unfold f_X8_setUp_b96_body at hf
    refine lv_iload hx hb dX8_setUp_96 (lv_at hl 8 rfl) ?_
    refine lv_aload_n hx hb dX8_setUp_98 rfl (lv_at hl 0 rfl) ?_
    refine p_getR X hH fg_RX8_10 hf dX8_setUp_99 (fun v10 _ hf => ?_)
    refine p_getI X hH fg_RX8_53 hf dX8_setUp_102 (fun v11 _ hf => ?_)
    refine p_icmp_ge X hf dX8_setUp_105 (tgt := 154) (by decide) (fun _ hf => ?_) (fun _ hf => ?_)
    · refine lv_iload hx hb dX8_setUp_154 (lv_at hl 7 rfl) ?_
      refine p_if_ne X hf dX8_setUp_156 (tgt := 165) (by decide) (fun _ hf => ?_) (fun _ hf => ?_)
      · refine lv_bipush (v := 10) hx hb dX8_setUp_165 (by decide) ?_
        refine p_newI X hH m_524 (N := 10) (by decide) rfl (by decide) (by decide) (by decide) hf dX8_setUp_167 (fun q12 h H hH hf => ?_)
        refine W.widen (k := 1) (n := 10) (by decide) (by decide) ?_
        refine lv_dup hx hb dX8_setUp_169 rfl ?_
        refine lv_iconst (v := 0) hx hb dX8_setUp_170 (by decide) ?_
        refine lv_iload_n hx hb dX8_setUp_171 rfl (lv_at hl 1 rfl) ?_
        refine p_iast X hH hf dX8_setUp_172 (fun h H locs hH hf => ?_)
        refine lv_dup hx hb dX8_setUp_173 rfl ?_
        refine lv_iconst (v := 1) hx hb dX8_setUp_174 (by decide) ?_
        refine lv_iload_n hx hb dX8_setUp_175 rfl (lv_at hl 2 rfl) ?_
        refine p_iast X hH hf dX8_setUp_176 (fun h H locs hH hf => ?_)
        refine lv_dup hx hb dX8_setUp_177 rfl ?_
        refine lv_iconst (v := 2) hx hb dX8_setUp_178 (by decide) ?_
        refine lv_iload_n hx hb dX8_setUp_179 rfl (lv_at hl 3 rfl) ?_
        refine p_iast X hH hf dX8_setUp_180 (fun h H locs hH hf => ?_)
        refine lv_dup hx hb dX8_setUp_181 rfl ?_
        refine lv_iconst (v := 3) hx hb dX8_setUp_182 (by decide) ?_
        refine lv_iload hx hb dX8_setUp_183 (lv_at hl 4 rfl) ?_
        refine p_iast X hH hf dX8_setUp_185 (fun h H locs hH hf => ?_)
        refine lv_dup hx hb dX8_setUp_186 rfl ?_
        refine lv_iconst (v := 4) hx hb dX8_setUp_187 (by decide) ?_
        refine lv_iload hx hb dX8_setUp_188 (lv_at hl 5 rfl) ?_
        refine p_iast X hH hf dX8_setUp_190 (fun h H locs hH hf => ?_)
        refine lv_dup hx hb dX8_setUp_191 rfl ?_
        refine lv_iconst (v := 5) hx hb dX8_setUp_192 (by decide) ?_
        refine lv_iconst (v := 0) hx hb dX8_setUp_193 (by decide) ?_
        refine p_iast X hH hf dX8_setUp_194 (fun h H locs hH hf => ?_)
        refine lv_dup hx hb dX8_setUp_195 rfl ?_
        refine lv_bipush (v := 6) hx hb dX8_setUp_196 (by decide) ?_
        refine lv_iload hx hb dX8_setUp_198 (lv_at hl 6 rfl) ?_
        refine p_iast X hH hf dX8_setUp_200 (fun h H locs hH hf => ?_)
        refine lv_dup hx hb dX8_setUp_201 rfl ?_
        refine lv_bipush (v := 7) hx hb dX8_setUp_202 (by decide) ?_
        refine lv_iconst (v := 0) hx hb dX8_setUp_204 (by decide) ?_
        refine p_iast X hH hf dX8_setUp_205 (fun h H locs hH hf => ?_)
        refine lv_dup hx hb dX8_setUp_206 rfl ?_
        refine lv_bipush (v := 8) hx hb dX8_setUp_207 (by decide) ?_
        refine lv_iconst (v := 0) hx hb dX8_setUp_209 (by decide) ?_
        refine p_iast X hH hf dX8_setUp_210 (fun h H locs hH hf => ?_)
        refine lv_dup hx hb dX8_setUp_211 rfl ?_
        refine lv_bipush (v := 9) hx hb dX8_setUp_212 (by decide) ?_
        refine lv_iconst (v := 0) hx hb dX8_setUp_214 (by decide) ?_
        refine p_iast X hH hf dX8_setUp_215 (fun h H locs hH hf => ?_)
        refine lv_astore (lv' := [(8, .ref q12), (0, .ref x0), (1, .int x1), (2, .int x2), (3, .int x3), (4, .int x4), (5, .int x5), (6, .int x6), (7, .int x7)]) hx hb dX8_setUp_216 hl (by decide) rfl (fun ls hl => ?_)
        refine lv_aload hx hb dX8_setUp_218 (lv_at hl 0 rfl) ?_
        refine lv_iconst (v := 0) hx hb dX8_setUp_220 (by decide) ?_
        refine lv_aload_n hx hb dX8_setUp_221 rfl (lv_at hl 1 rfl) ?_
        refine p_getR X hH fg_RX8_10 hf dX8_setUp_222 (fun v13 _ hf => ?_)
        refine p_getR X hH fg_RX8_59 hf dX8_setUp_225 (fun v14 _ hf => ?_)
        refine lv_bipush (v := 10) hx hb dX8_setUp_228 (by decide) ?_
        refine lv_aload_n hx hb dX8_setUp_230 rfl (lv_at hl 1 rfl) ?_
        refine p_getR X hH fg_RX8_10 hf dX8_setUp_231 (fun v15 _ hf => ?_)
        refine p_getI X hH fg_RX8_53 hf dX8_setUp_234 (fun v16 _ hf => ?_)
        refine lv_imul hx hb dX8_setUp_237 ?_
        refine lv_bipush (v := 10) hx hb dX8_setUp_238 (by decide) ?_
        refine p_copy0 X hH m_938 m_185 m_184 m_41 hl.1 (by decide) (Nat.le_of_ble_eq_true rfl) hf dX8_setUp_240 (fun h H locs hH hf => ?_)
        refine lv_aload_n hx hb dX8_setUp_243 rfl (lv_at hl 1 rfl) ?_
        refine p_getR X hH fg_RX8_10 hf dX8_setUp_244 (fun v17 _ hf => ?_)
        refine lv_dup hx hb dX8_setUp_247 rfl ?_
        refine p_getI X hH fg_RX8_53 hf dX8_setUp_248 (fun v18 _ hf => ?_)
        refine lv_iconst (v := 1) hx hb dX8_setUp_251 (by decide) ?_
        refine lv_iadd hx hb dX8_setUp_252 ?_
        refine p_put X hH fp_RX8_53 rfl rfl hf dX8_setUp_253 (fun h H locs hH hf => ?_)
        refine lv_aload_n hx hb dX8_setUp_256 rfl (lv_at hl 1 rfl) ?_
        refine p_getR X hH fg_RX8_10 hf dX8_setUp_257 (fun v19 _ hf => ?_)
        refine p_getI X hH fg_RX8_53 hf dX8_setUp_260 (fun v20 _ hf => ?_)
        refine lv_iconst (v := 1) hx hb dX8_setUp_263 (by decide) ?_
        refine lv_isub hx hb dX8_setUp_264 ?_
        exact p_iret X hH hf (by decide) (by decide) dX8_setUp_265
      · refine lv_aload_n hx hb dX8_setUp_159 rfl (lv_at hl 0 rfl) ?_
        refine lv_iconst (v := 2) hx hb dX8_setUp_160 (by decide) ?_
        refine p_cVI (As := [.int (2 : Int32)]) (b := x0) (rest := []) (ci := 9) X hH rfl hf (fun _ _ e_ => c_X8_no l G x0 (2 : Int32) h _ _ e_) mv_X8_no lk_RX8_38 (by decide) rfl hl.1 (Nat.le_of_ble_eq_true rfl) dX8_setUp_161 (c2 := 0) (s2 := 0) (by decide) (fun v21 h H locs hH hf => ?_)
        exact p_iret X hH hf (by decide) (by decide) dX8_setUp_164
    · refine lv_iload hx hb dX8_setUp_108 (lv_at hl 7 rfl) ?_
      refine p_if_eq X hf dX8_setUp_110 (tgt := 145) (by decide) (fun _ hf => ?_) (fun _ hf => ?_)
      · exact w_X8_setUp_b145 l X k96 ik96 x0 x1 x2 x3 x4 x5 x6 x8 h H locs ls hH (lv_sub hl [0, 1, 2, 3, 4, 5, 6, 8] rfl) hf
      · refine lv_aload_n hx hb dX8_setUp_113 rfl (lv_at hl 0 rfl) ?_
        refine p_getR X hH fg_RX8_10 hf dX8_setUp_114 (fun v22 _ hf => ?_)
        refine lv_iload hx hb dX8_setUp_117 (lv_at hl 8 rfl) ?_
        refine lv_iconst (v := 0) hx hb dX8_setUp_119 (by decide) ?_
        refine p_cVI (As := [.int x8, .int (0 : Int32)]) (b := v22) (rest := []) (ci := 8) X hH rfl hf (fun _ _ e_ => c_X7_of l G v22 x8 (0 : Int32) h _ _ e_) mv_X7_of lk_RX8_56 (by decide) rfl hl.1 (Nat.le_of_ble_eq_true rfl) dX8_setUp_120 (c2 := 0) (s2 := 0) (by decide) (fun v23 h H locs hH hf => ?_)
        refine lv_iload_n hx hb dX8_setUp_123 rfl (lv_at hl 1 rfl) ?_
        refine p_icmp_ne X hf dX8_setUp_124 (tgt := 141) (by decide) (fun _ hf => ?_) (fun _ hf => ?_)
        · exact w_X8_setUp_b141 l X k96 ik96 x0 x1 x2 x3 x4 x5 x6 x8 h H locs ls hH (lv_sub hl [0, 1, 2, 3, 4, 5, 6, 8] rfl) hf
        · refine lv_aload_n hx hb dX8_setUp_127 rfl (lv_at hl 0 rfl) ?_
          refine p_getR X hH fg_RX8_10 hf dX8_setUp_128 (fun v24 _ hf => ?_)
          refine lv_iload hx hb dX8_setUp_131 (lv_at hl 8 rfl) ?_
          refine lv_iconst (v := 1) hx hb dX8_setUp_133 (by decide) ?_
          refine p_cVI (As := [.int x8, .int (1 : Int32)]) (b := v24) (rest := []) (ci := 8) X hH rfl hf (fun _ _ e_ => c_X7_of l G v24 x8 (1 : Int32) h _ _ e_) mv_X7_of lk_RX8_56 (by decide) rfl hl.1 (Nat.le_of_ble_eq_true rfl) dX8_setUp_134 (c2 := 0) (s2 := 0) (by decide) (fun v25 h H locs hH hf => ?_)
          refine lv_iload_n hx hb dX8_setUp_137 rfl (lv_at hl 2 rfl) ?_
          refine p_icmp_eq X hf dX8_setUp_138 (tgt := 145) (by decide) (fun _ hf => ?_) (fun _ hf => ?_)
          · exact w_X8_setUp_b145 l X k96 ik96 x0 x1 x2 x3 x4 x5 x6 x8 h H locs ls hH (lv_sub hl [0, 1, 2, 3, 4, 5, 6, 8] rfl) hf
          · exact w_X8_setUp_b141 l X k96 ik96 x0 x1 x2 x3 x4 x5 x6 x8 h H locs ls hH (lv_sub hl [0, 1, 2, 3, 4, 5, 6, 8] rfl) hf
set_option maxRecDepth 100000 in
set_option maxHeartbeats 4000000 in
theorem w_X8_setUp_b91 {G : GE} {p : Program} (l : Launch) {e : Env} {s : State} {m : MethodId} {args : Array Value} {below : List Frame} {meth : Method} {c : Code} {rr : Int32} {hh : PH} (X : Cx G p s m args meth c cX8_setUp 9 RX8 "setUp" (some .int)) (x0 : Nat) (x1 : Int32) (x2 : Int32) (x3 : Int32) (x4 : Int32) (x5 : Int32) (x6 : Int32) (t0 : Int32) (h : PH) (H : Heap) (locs : List Loc) (ls : Array Slot) (hH : Hx G s h H locs) (hl : lv_has ls 9 [(0, .ref x0), (1, .int x1), (2, .int x2), (3, .int x3), (4, .int x4), (5, .int x5), (6, .int x6)]) (hf : f_X8_setUp_b91 G x0 x1 x2 x3 x4 x5 x6 t0 h = some (rr, hh)) : W p l e rm_X8_setUp s m args below meth c H locs 0 0 (Fq G (some (.int rr)) hh below args s rm_X8_setUp.cells rm_X8_setUp.slots) (F0 m 91 ls [.int t0]) := by
  have hx := X.1
  have hb := X.2.1
  unfold f_X8_setUp_b91 at hf
  refine lv_istore (lv' := [(7, .int t0), (0, .ref x0), (1, .int x1), (2, .int x2), (3, .int x3), (4, .int x4), (5, .int x5), (6, .int x6)]) hx hb dX8_setUp_91 hl (by decide) rfl (fun ls hl => ?_)
  refine lv_iconst (v := 0) hx hb dX8_setUp_93 (by decide) ?_
  refine lv_istore (lv' := [(8, .int (0 : Int32)), (7, .int t0), (0, .ref x0), (1, .int x1), (2, .int x2), (3, .int x3), (4, .int x4), (5, .int x5), (6, .int x6)]) hx hb dX8_setUp_94 hl (by decide) rfl (fun ls hl => ?_)
  exact w_X8_setUp_b96 l X LF x0 x1 x2 x3 x4 x5 x6 t0 (0 : Int32) h H locs ls hH (lv_sub hl [2, 3, 4, 5, 6, 7, 8, 1, 0] rfl) hf
set_option maxRecDepth 100000 in
set_option maxHeartbeats 4000000 in
theorem c_X8_setUp (l : Launch) (G : GE) (x0 : Nat) (x1 : Int32) (x2 : Int32) (x3 : Int32) (x4 : Int32) (x5 : Int32) (x6 : Int32) (h : PH) (rr : Int32) (hh : PH) (hf : f_X8_setUp G x0 x1 x2 x3 x4 x5 x6 h = some (rr, hh)) : Ct l yX8_setUp cX8_setUp 9 (some .int) rm_X8_setUp G [.ref x0, .int x1, .int x2, .int x3, .int x4, .int x5, .int x6] h (some (.int rr)) hh := by
  refine Ct.of (plainFor_of_name (by decide)) (Nat.le_of_ble_eq_true rfl) ?_
  intro p e s m args below meth c ls X hH hl
  have hl : lv_has ls 9 [(0, .ref x0), (1, .int x1), (2, .int x2), (3, .int x3), (4, .int x4), (5, .int x5), (6, .int x6)] := hl
  have X : Cx G p s m args meth c cX8_setUp 9 RX8 "setUp" (some .int) := X
  have hx := X.1
  have hb := X.2.1
  unfold f_X8_setUp at hf
  obtain ⟨H, hHe⟩ : ∃ z, z = s.heap := ⟨_, rfl⟩
  obtain ⟨locs, hLe⟩ : ∃ z, z = ([] : List Loc) := ⟨_, rfl⟩
  rw [← hHe, ← hLe] at hH
  rw [← hHe, ← hLe]
  refine lv_aload_n hx hb dX8_setUp_0 rfl (lv_at hl 0 rfl) ?_
  refine lv_iconst (v := 0) hx hb dX8_setUp_1 (by decide) ?_
  refine p_put X hH fp_RX8_19 rfl rfl hf dX8_setUp_2 (fun h H locs hH hf => ?_)
  refine lv_iload_n hx hb dX8_setUp_5 rfl (lv_at hl 1 rfl) ?_
  refine lv_iconst (v := 0) hx hb dX8_setUp_6 (by decide) ?_
  refine lv_bipush (v := 11) hx hb dX8_setUp_7 (by decide) ?_
  refine p_cSI (As := [.int x1, .int (0 : Int32), .int (11 : Int32)]) (rest := []) X hH hf (fun _ _ e_ => c_X8_isIn l G x1 (0 : Int32) (11 : Int32) h _ _ e_) ms_X8_isIn lk_RX8_34 (by decide) rfl hl.1 (Nat.le_of_ble_eq_true rfl) dX8_setUp_9 (c2 := 0) (s2 := 0) (by decide) (fun v1 h H locs hH hf => ?_)
  refine p_if_eq X hf dX8_setUp_12 (tgt := 68) (by decide) (fun _ hf => ?_) (fun _ hf => ?_)
  · exact w_X8_setUp_b68 l X x0 h H locs ls hH (lv_sub hl [0] rfl) hf
  · refine lv_iload_n hx hb dX8_setUp_15 rfl (lv_at hl 2 rfl) ?_
    refine lv_iconst (v := 0) hx hb dX8_setUp_16 (by decide) ?_
    refine lv_bipush (v := 11) hx hb dX8_setUp_17 (by decide) ?_
    refine p_cSI (As := [.int x2, .int (0 : Int32), .int (11 : Int32)]) (rest := []) X hH hf (fun _ _ e_ => c_X8_isIn l G x2 (0 : Int32) (11 : Int32) h _ _ e_) ms_X8_isIn lk_RX8_34 (by decide) rfl hl.1 (Nat.le_of_ble_eq_true rfl) dX8_setUp_19 (c2 := 0) (s2 := 0) (by decide) (fun v2 h H locs hH hf => ?_)
    refine p_if_eq X hf dX8_setUp_22 (tgt := 68) (by decide) (fun _ hf => ?_) (fun _ hf => ?_)
    · exact w_X8_setUp_b68 l X x0 h H locs ls hH (lv_sub hl [0] rfl) hf
    · refine lv_iload_n hx hb dX8_setUp_25 rfl (lv_at hl 3 rfl) ?_
      refine lv_iconst (v := 1) hx hb dX8_setUp_26 (by decide) ?_
      refine lv_bipush (v := 9) hx hb dX8_setUp_27 (by decide) ?_
      refine p_cSI (As := [.int x3, .int (1 : Int32), .int (9 : Int32)]) (rest := []) X hH hf (fun _ _ e_ => c_X8_isIn l G x3 (1 : Int32) (9 : Int32) h _ _ e_) ms_X8_isIn lk_RX8_34 (by decide) rfl hl.1 (Nat.le_of_ble_eq_true rfl) dX8_setUp_29 (c2 := 0) (s2 := 0) (by decide) (fun v3 h H locs hH hf => ?_)
      refine p_if_eq X hf dX8_setUp_32 (tgt := 68) (by decide) (fun _ hf => ?_) (fun _ hf => ?_)
      · exact w_X8_setUp_b68 l X x0 h H locs ls hH (lv_sub hl [0] rfl) hf
      · refine lv_iload hx hb dX8_setUp_35 (lv_at hl 4 rfl) ?_
        refine lv_iconst (v := 1) hx hb dX8_setUp_37 (by decide) ?_
        refine lv_bipush (v := 9) hx hb dX8_setUp_38 (by decide) ?_
        refine p_cSI (As := [.int x4, .int (1 : Int32), .int (9 : Int32)]) (rest := []) X hH hf (fun _ _ e_ => c_X8_isIn l G x4 (1 : Int32) (9 : Int32) h _ _ e_) ms_X8_isIn lk_RX8_34 (by decide) rfl hl.1 (Nat.le_of_ble_eq_true rfl) dX8_setUp_40 (c2 := 0) (s2 := 0) (by decide) (fun v4 h H locs hH hf => ?_)
        refine p_if_eq X hf dX8_setUp_43 (tgt := 68) (by decide) (fun _ hf => ?_) (fun _ hf => ?_)
        · exact w_X8_setUp_b68 l X x0 h H locs ls hH (lv_sub hl [0] rfl) hf
        · refine lv_iload hx hb dX8_setUp_46 (lv_at hl 5 rfl) ?_
          refine lv_iconst (v := 0) hx hb dX8_setUp_48 (by decide) ?_
          refine lv_bipush (v := 9) hx hb dX8_setUp_49 (by decide) ?_
          refine p_cSI (As := [.int x5, .int (0 : Int32), .int (9 : Int32)]) (rest := []) X hH hf (fun _ _ e_ => c_X8_isIn l G x5 (0 : Int32) (9 : Int32) h _ _ e_) ms_X8_isIn lk_RX8_34 (by decide) rfl hl.1 (Nat.le_of_ble_eq_true rfl) dX8_setUp_51 (c2 := 0) (s2 := 0) (by decide) (fun v5 h H locs hH hf => ?_)
          refine p_if_eq X hf dX8_setUp_54 (tgt := 68) (by decide) (fun _ hf => ?_) (fun _ hf => ?_)
          · exact w_X8_setUp_b68 l X x0 h H locs ls hH (lv_sub hl [0] rfl) hf
          · refine lv_iload hx hb dX8_setUp_57 (lv_at hl 6 rfl) ?_
            refine lv_iconst (v := 0) hx hb dX8_setUp_59 (by decide) ?_
            refine lv_bipush (v := 15) hx hb dX8_setUp_60 (by decide) ?_
            refine p_cSI (As := [.int x6, .int (0 : Int32), .int (15 : Int32)]) (rest := []) X hH hf (fun _ _ e_ => c_X8_isIn l G x6 (0 : Int32) (15 : Int32) h _ _ e_) ms_X8_isIn lk_RX8_34 (by decide) rfl hl.1 (Nat.le_of_ble_eq_true rfl) dX8_setUp_62 (c2 := 0) (s2 := 0) (by decide) (fun v6 h H locs hH hf => ?_)
            refine p_if_ne X hf dX8_setUp_65 (tgt := 74) (by decide) (fun _ hf => ?_) (fun _ hf => ?_)
            · refine lv_aload_n hx hb dX8_setUp_74 rfl (lv_at hl 0 rfl) ?_
              refine p_getR X hH fg_RX8_10 hf dX8_setUp_75 (fun v7 _ hf => ?_)
              refine p_getI X hH fg_RX8_53 hf dX8_setUp_78 (fun v8 _ hf => ?_)
              refine lv_bipush (v := 16) hx hb dX8_setUp_81 (by decide) ?_
              refine p_icmp_ge X hf dX8_setUp_83 (tgt := 90) (by decide) (fun _ hf => ?_) (fun _ hf => ?_)
              · refine lv_iconst (v := 0) hx hb dX8_setUp_90 (by decide) ?_
                exact w_X8_setUp_b91 l X x0 x1 x2 x3 x4 x5 x6 (0 : Int32) h H locs ls hH (lv_sub hl [0, 1, 2, 3, 4, 5, 6] rfl) hf
              · refine lv_iconst (v := 1) hx hb dX8_setUp_86 (by decide) ?_
                refine lv_goto (tgt := 91) hx hb dX8_setUp_87 (by decide) ?_
                exact w_X8_setUp_b91 l X x0 x1 x2 x3 x4 x5 x6 (1 : Int32) h H locs ls hH (lv_sub hl [0, 1, 2, 3, 4, 5, 6] rfl) hf
            · exact w_X8_setUp_b68 l X x0 h H locs ls hH (lv_sub hl [0] rfl) hf
set_option maxRecDepth 100000 in
set_option maxHeartbeats 4000000 in
theorem c_X8_isVane (l : Launch) (G : GE) (x0 : Nat) (x1 : Int32) (h : PH) (rr : Int32) (hh : PH) (hf : f_X8_isVane G x0 x1 h = some (rr, hh)) : Ct l yX8_isVane cX8_isVane 2 (some .boolean) rm_X8_isVane G [.ref x0, .int x1] h (some (.int rr)) hh := by
  refine Ct.of (plainFor_of_name (by decide)) (Nat.le_of_ble_eq_true rfl) ?_
  intro p e s m args below meth c ls X hH hl
  have hl : lv_has ls 2 [(0, .ref x0), (1, .int x1)] := hl
  have X : Cx G p s m args meth c cX8_isVane 2 RX8 "isVane" (some .boolean) := X
  have hx := X.1
  have hb := X.2.1
  unfold f_X8_isVane at hf
  obtain ⟨H, hHe⟩ : ∃ z, z = s.heap := ⟨_, rfl⟩
  obtain ⟨locs, hLe⟩ : ∃ z, z = ([] : List Loc) := ⟨_, rfl⟩
  rw [← hHe, ← hLe] at hH
  rw [← hHe, ← hLe]
  refine lv_iload_n hx hb dX8_isVane_0 rfl (lv_at hl 1 rfl) ?_
  refine lv_iconst (v := 0) hx hb dX8_isVane_1 (by decide) ?_
  refine lv_aload_n hx hb dX8_isVane_2 rfl (lv_at hl 0 rfl) ?_
  refine p_getR X hH fg_RX8_10 hf dX8_isVane_3 (fun v1 _ hf => ?_)
  refine p_getI X hH fg_RX8_53 hf dX8_isVane_6 (fun v2 _ hf => ?_)
  refine lv_iconst (v := 1) hx hb dX8_isVane_9 (by decide) ?_
  refine lv_isub hx hb dX8_isVane_10 ?_
  refine p_cSI (As := [.int x1, .int (0 : Int32), .int (v2 - (1 : Int32))]) (rest := []) X hH hf (fun _ _ e_ => c_X8_isIn l G x1 (0 : Int32) (v2 - (1 : Int32)) h _ _ e_) ms_X8_isIn lk_RX8_34 (by decide) rfl hl.1 (Nat.le_of_ble_eq_true rfl) dX8_isVane_11 (c2 := 0) (s2 := 0) (by decide) (fun v3 h H locs hH hf => ?_)
  exact p_zret X hH hf (by decide) (by decide) dX8_isVane_14
set_option maxRecDepth 100000 in
set_option maxHeartbeats 4000000 in
theorem c_X8_oil (l : Launch) (G : GE) (x0 : Nat) (x1 : Int32) (h : PH) (rr : Int32) (hh : PH) (hf : f_X8_oil G x0 x1 h = some (rr, hh)) : Ct l yX8_oil cX8_oil 3 (some .int) rm_X8_oil G [.ref x0, .int x1] h (some (.int rr)) hh := by
  refine Ct.of (plainFor_of_name (by decide)) (Nat.le_of_ble_eq_true rfl) ?_
  intro p e s m args below meth c ls X hH hl
  have hl : lv_has ls 3 [(0, .ref x0), (1, .int x1)] := hl
  have X : Cx G p s m args meth c cX8_oil 3 RX8 "oil" (some .int) := X
  have hx := X.1
  have hb := X.2.1
  unfold f_X8_oil at hf
  obtain ⟨H, hHe⟩ : ∃ z, z = s.heap := ⟨_, rfl⟩
  obtain ⟨locs, hLe⟩ : ∃ z, z = ([] : List Loc) := ⟨_, rfl⟩
  rw [← hHe, ← hLe] at hH
  rw [← hHe, ← hLe]
  refine lv_aload_n hx hb dX8_oil_0 rfl (lv_at hl 0 rfl) ?_
  refine lv_iconst (v := 0) hx hb dX8_oil_1 (by decide) ?_
  refine p_put X hH fp_RX8_19 rfl rfl hf dX8_oil_2 (fun h H locs hH hf => ?_)
  refine lv_aload_n hx hb dX8_oil_5 rfl (lv_at hl 0 rfl) ?_
  refine lv_iload_n hx hb dX8_oil_6 rfl (lv_at hl 1 rfl) ?_
  refine p_cVI (As := [.int x1]) (b := x0) (rest := []) (ci := 9) X hH rfl hf (fun _ _ e_ => c_X8_isVane l G x0 x1 h _ _ e_) mv_X8_isVane lk_RX8_68 (by decide) rfl hl.1 (Nat.le_of_ble_eq_true rfl) dX8_oil_7 (c2 := 0) (s2 := 0) (by decide) (fun v1 h H locs hH hf => ?_)
  refine p_if_ne X hf dX8_oil_10 (tgt := 19) (by decide) (fun _ hf => ?_) (fun _ hf => ?_)
  · refine lv_aload_n hx hb dX8_oil_19 rfl (lv_at hl 0 rfl) ?_
    refine p_getR X hH fg_RX8_10 hf dX8_oil_20 (fun v2 _ hf => ?_)
    refine lv_iload_n hx hb dX8_oil_23 rfl (lv_at hl 1 rfl) ?_
    refine lv_iconst (v := 5) hx hb dX8_oil_24 (by decide) ?_
    refine p_cVI (As := [.int x1, .int (5 : Int32)]) (b := v2) (rest := []) (ci := 8) X hH rfl hf (fun _ _ e_ => c_X7_of l G v2 x1 (5 : Int32) h _ _ e_) mv_X7_of lk_RX8_56 (by decide) rfl hl.1 (Nat.le_of_ble_eq_true rfl) dX8_oil_25 (c2 := 0) (s2 := 0) (by decide) (fun v3 h H locs hH hf => ?_)
    refine lv_istore_n (lv' := [(2, .int v3), (0, .ref x0), (1, .int x1)]) hx hb dX8_oil_28 rfl hl (by decide) rfl (fun ls hl => ?_)
    refine lv_aload_n hx hb dX8_oil_29 rfl (lv_at hl 1 rfl) ?_
    refine p_getR X hH fg_RX8_10 hf dX8_oil_30 (fun v4 _ hf => ?_)
    refine lv_iload_n hx hb dX8_oil_33 rfl (lv_at hl 2 rfl) ?_
    refine p_cVV (As := [.int x1]) (b := v4) (rest := []) (ci := 8) X hH rfl hf (fun _ _ e_ => c_X7_oil l G v4 x1 h _ _ e_) mv_X7_oil lk_RX8_72 (by decide) rfl hl.1 (Nat.le_of_ble_eq_true rfl) dX8_oil_34 (c2 := 0) (s2 := 0) (by decide) (fun _ h H locs hH hf => ?_)
    refine lv_iload_n hx hb dX8_oil_37 rfl (lv_at hl 0 rfl) ?_
    exact p_iret X hH hf (by decide) (by decide) dX8_oil_38
  · refine lv_aload_n hx hb dX8_oil_13 rfl (lv_at hl 0 rfl) ?_
    refine lv_iconst (v := 1) hx hb dX8_oil_14 (by decide) ?_
    refine p_cVI (As := [.int (1 : Int32)]) (b := x0) (rest := []) (ci := 9) X hH rfl hf (fun _ _ e_ => c_X8_no l G x0 (1 : Int32) h _ _ e_) mv_X8_no lk_RX8_38 (by decide) rfl hl.1 (Nat.le_of_ble_eq_true rfl) dX8_oil_15 (c2 := 0) (s2 := 0) (by decide) (fun v5 h H locs hH hf => ?_)
    exact p_iret X hH hf (by decide) (by decide) dX8_oil_18
set_option maxRecDepth 100000 in
set_option maxHeartbeats 4000000 in
theorem c_X8_turn (l : Launch) (G : GE) (x0 : Nat) (x1 : Int32) (x2 : Int32) (h : PH) (rr : Int32) (hh : PH) (hf : f_X8_turn G x0 x1 x2 h = some (rr, hh)) : Ct l yX8_turn cX8_turn 4 (some .int) rm_X8_turn G [.ref x0, .int x1, .int x2] h (some (.int rr)) hh := by
  refine Ct.of (plainFor_of_name (by decide)) (Nat.le_of_ble_eq_true rfl) ?_
  intro p e s m args below meth c ls X hH hl
  have hl : lv_has ls 4 [(0, .ref x0), (1, .int x1), (2, .int x2)] := hl
  have X : Cx G p s m args meth c cX8_turn 4 RX8 "turn" (some .int) := X
  have hx := X.1
  have hb := X.2.1
  unfold f_X8_turn at hf
  obtain ⟨H, hHe⟩ : ∃ z, z = s.heap := ⟨_, rfl⟩
  obtain ⟨locs, hLe⟩ : ∃ z, z = ([] : List Loc) := ⟨_, rfl⟩
  rw [← hHe, ← hLe] at hH
  rw [← hHe, ← hLe]
  refine lv_aload_n hx hb dX8_turn_0 rfl (lv_at hl 0 rfl) ?_
  refine lv_iconst (v := 0) hx hb dX8_turn_1 (by decide) ?_
  refine p_put X hH fp_RX8_19 rfl rfl hf dX8_turn_2 (fun h H locs hH hf => ?_)
  refine lv_aload_n hx hb dX8_turn_5 rfl (lv_at hl 0 rfl) ?_
  refine lv_iload_n hx hb dX8_turn_6 rfl (lv_at hl 1 rfl) ?_
  refine p_cVI (As := [.int x1]) (b := x0) (rest := []) (ci := 9) X hH rfl hf (fun _ _ e_ => c_X8_isVane l G x0 x1 h _ _ e_) mv_X8_isVane lk_RX8_68 (by decide) rfl hl.1 (Nat.le_of_ble_eq_true rfl) dX8_turn_7 (c2 := 0) (s2 := 0) (by decide) (fun v1 h H locs hH hf => ?_)
  refine p_if_ne X hf dX8_turn_10 (tgt := 19) (by decide) (fun _ hf => ?_) (fun _ hf => ?_)
  · refine lv_iload_n hx hb dX8_turn_19 rfl (lv_at hl 2 rfl) ?_
    refine lv_iconst (v := 0) hx hb dX8_turn_20 (by decide) ?_
    refine lv_bipush (v := 15) hx hb dX8_turn_21 (by decide) ?_
    refine p_cSI (As := [.int x2, .int (0 : Int32), .int (15 : Int32)]) (rest := []) X hH hf (fun _ _ e_ => c_X8_isIn l G x2 (0 : Int32) (15 : Int32) h _ _ e_) ms_X8_isIn lk_RX8_34 (by decide) rfl hl.1 (Nat.le_of_ble_eq_true rfl) dX8_turn_23 (c2 := 0) (s2 := 0) (by decide) (fun v2 h H locs hH hf => ?_)
    refine p_if_ne X hf dX8_turn_26 (tgt := 35) (by decide) (fun _ hf => ?_) (fun _ hf => ?_)
    · refine lv_aload_n hx hb dX8_turn_35 rfl (lv_at hl 0 rfl) ?_
      refine p_getR X hH fg_RX8_10 hf dX8_turn_36 (fun v3 _ hf => ?_)
      refine lv_iload_n hx hb dX8_turn_39 rfl (lv_at hl 1 rfl) ?_
      refine lv_bipush (v := 8) hx hb dX8_turn_40 (by decide) ?_
      refine p_cVI (As := [.int x1, .int (8 : Int32)]) (b := v3) (rest := []) (ci := 8) X hH rfl hf (fun _ _ e_ => c_X7_of l G v3 x1 (8 : Int32) h _ _ e_) mv_X7_of lk_RX8_56 (by decide) rfl hl.1 (Nat.le_of_ble_eq_true rfl) dX8_turn_42 (c2 := 0) (s2 := 0) (by decide) (fun v4 h H locs hH hf => ?_)
      refine p_if_le X hf dX8_turn_45 (tgt := 54) (by decide) (fun _ hf => ?_) (fun _ hf => ?_)
      · refine lv_aload_n hx hb dX8_turn_54 rfl (lv_at hl 0 rfl) ?_
        refine p_getR X hH fg_RX8_10 hf dX8_turn_55 (fun v5 _ hf => ?_)
        refine lv_iload_n hx hb dX8_turn_58 rfl (lv_at hl 1 rfl) ?_
        refine lv_bipush (v := 6) hx hb dX8_turn_59 (by decide) ?_
        refine p_cVI (As := [.int x1, .int (6 : Int32)]) (b := v5) (rest := []) (ci := 8) X hH rfl hf (fun _ _ e_ => c_X7_of l G v5 x1 (6 : Int32) h _ _ e_) mv_X7_of lk_RX8_56 (by decide) rfl hl.1 (Nat.le_of_ble_eq_true rfl) dX8_turn_61 (c2 := 0) (s2 := 0) (by decide) (fun v6 h H locs hH hf => ?_)
        refine lv_istore_n (lv' := [(3, .int v6), (0, .ref x0), (1, .int x1), (2, .int x2)]) hx hb dX8_turn_64 rfl hl (by decide) rfl (fun ls hl => ?_)
        refine lv_aload_n hx hb dX8_turn_65 rfl (lv_at hl 1 rfl) ?_
        refine p_getR X hH fg_RX8_10 hf dX8_turn_66 (fun v7 _ hf => ?_)
        refine lv_iload_n hx hb dX8_turn_69 rfl (lv_at hl 2 rfl) ?_
        refine lv_bipush (v := 6) hx hb dX8_turn_70 (by decide) ?_
        refine lv_iload_n hx hb dX8_turn_72 rfl (lv_at hl 3 rfl) ?_
        refine p_cVV (As := [.int x1, .int (6 : Int32), .int x2]) (b := v7) (rest := []) (ci := 8) X hH rfl hf (fun _ _ e_ => c_X7_set l G v7 x1 (6 : Int32) x2 h _ _ e_) mv_X7_set lk_RX8_76 (by decide) rfl hl.1 (Nat.le_of_ble_eq_true rfl) dX8_turn_73 (c2 := 0) (s2 := 0) (by decide) (fun _ h H locs hH hf => ?_)
        refine lv_aload_n hx hb dX8_turn_76 rfl (lv_at hl 1 rfl) ?_
        refine p_getR X hH fg_RX8_10 hf dX8_turn_77 (fun v8 _ hf => ?_)
        refine lv_iload_n hx hb dX8_turn_80 rfl (lv_at hl 2 rfl) ?_
        refine lv_bipush (v := 7) hx hb dX8_turn_81 (by decide) ?_
        refine lv_iconst (v := 0) hx hb dX8_turn_83 (by decide) ?_
        refine p_cVV (As := [.int x1, .int (7 : Int32), .int (0 : Int32)]) (b := v8) (rest := []) (ci := 8) X hH rfl hf (fun _ _ e_ => c_X7_set l G v8 x1 (7 : Int32) (0 : Int32) h _ _ e_) mv_X7_set lk_RX8_76 (by decide) rfl hl.1 (Nat.le_of_ble_eq_true rfl) dX8_turn_84 (c2 := 0) (s2 := 0) (by decide) (fun _ h H locs hH hf => ?_)
        refine lv_iload_n hx hb dX8_turn_87 rfl (lv_at hl 0 rfl) ?_
        exact p_iret X hH hf (by decide) (by decide) dX8_turn_88
      · refine lv_aload_n hx hb dX8_turn_48 rfl (lv_at hl 0 rfl) ?_
        refine lv_iconst (v := 3) hx hb dX8_turn_49 (by decide) ?_
        refine p_cVI (As := [.int (3 : Int32)]) (b := x0) (rest := []) (ci := 9) X hH rfl hf (fun _ _ e_ => c_X8_no l G x0 (3 : Int32) h _ _ e_) mv_X8_no lk_RX8_38 (by decide) rfl hl.1 (Nat.le_of_ble_eq_true rfl) dX8_turn_50 (c2 := 0) (s2 := 0) (by decide) (fun v9 h H locs hH hf => ?_)
        exact p_iret X hH hf (by decide) (by decide) dX8_turn_53
    · refine lv_aload_n hx hb dX8_turn_29 rfl (lv_at hl 0 rfl) ?_
      refine lv_iconst (v := 2) hx hb dX8_turn_30 (by decide) ?_
      refine p_cVI (As := [.int (2 : Int32)]) (b := x0) (rest := []) (ci := 9) X hH rfl hf (fun _ _ e_ => c_X8_no l G x0 (2 : Int32) h _ _ e_) mv_X8_no lk_RX8_38 (by decide) rfl hl.1 (Nat.le_of_ble_eq_true rfl) dX8_turn_31 (c2 := 0) (s2 := 0) (by decide) (fun v10 h H locs hH hf => ?_)
      exact p_iret X hH hf (by decide) (by decide) dX8_turn_34
  · refine lv_aload_n hx hb dX8_turn_13 rfl (lv_at hl 0 rfl) ?_
    refine lv_iconst (v := 1) hx hb dX8_turn_14 (by decide) ?_
    refine p_cVI (As := [.int (1 : Int32)]) (b := x0) (rest := []) (ci := 9) X hH rfl hf (fun _ _ e_ => c_X8_no l G x0 (1 : Int32) h _ _ e_) mv_X8_no lk_RX8_38 (by decide) rfl hl.1 (Nat.le_of_ble_eq_true rfl) dX8_turn_15 (c2 := 0) (s2 := 0) (by decide) (fun v11 h H locs hH hf => ?_)
    exact p_iret X hH hf (by decide) (by decide) dX8_turn_18
