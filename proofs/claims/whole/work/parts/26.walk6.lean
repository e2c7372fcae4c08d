/-! ===== walks (printed by program) ===== -/
set_option maxRecDepth 100000 in
set_option maxHeartbeats 4000000 in
theorem w_X6_digestWinds_b20 {G : GE} {p : Program} (l : Launch) {e : Env} {s : State} {m : MethodId} {args : Array Value} {below : List Frame} {meth : Method} {c : Code} {rr : Int64} {hh : PH} (X : Cx G p s m args meth c cX6_digestWinds 7 RX6 "digestWinds" (some .long)) (k5 : Nat → Int64 → Int32 → PH → Option (Int64 × PH)) (ik5 : ∀ (x0 : Nat) (x3 : Int64) (x5 : Int32) (h : PH) (H : Heap) (locs : List Loc) (ls : Array Slot), Hx G s h H locs → lv_has ls 7 [(0, .ref x0), (3, .long x3), (5, .int x5)] → k5 x0 x3 x5 h = some (rr, hh) → W p l e rm_X6_digestWinds s m args below meth c H locs 0 0 (Fq G (some (.long rr)) hh below args s rm_X6_digestWinds.cells rm_X6_digestWinds.slots) (F0 m 5 ls [])) : ∀ (n : Nat) (x0 : Nat) (x3 : Int64) (x5 : Int32) (x6 : Int32) (h : PH) (H : Heap) (locs : List Loc) (ls : Array Slot) (hH : Hx G s h H locs) (hl : lv_has ls 7 [(0, .ref x0), (3, .long x3), (5, .int x5), (6, .int x6)]) (hf : f_X6_digestWinds_b20 G k5 n x0 x3 x5 x6 h = some (rr, hh)), W p l e rm_X6_digestWinds s m args below meth c H locs 0 0 (Fq G (some (.long rr)) hh below args s rm_X6_digestWinds.cells rm_X6_digestWinds.slots) (F0 m 20 ls []) := by
  have hx := X.1
  have hb := X.2.1
  intro n
  induction n with
  | zero =>
    intro x0 x3 x5 x6 h H locs ls hH hl hf
    have hf : (none : Option (Int64 × PH)) = some (rr, hh) := hf
    cases hf
  | succ n ih =>
    intro x0 x3 x5 x6 h H locs ls hH hl hf
    have hf : f_X6_digestWinds_b20_body G k5 (f_X6_digestWinds_b20 G k5 n) x0 x3 x5 x6 h = some (rr, hh) := hf
    generalize f_X6_digestWinds_b20 G k5 n = k20 at hf ih
    have ik20 := ih
    unfold f_X6_digestWinds_b20_body at hf
    refine lv_iload hx hb dX6_digestWinds_20 (lv_at hl 3 rfl) ?_
    refine lv_iconst (v := 3) hx hb dX6_digestWinds_22 (by decide) ?_
    refine p_icmp_ge X hf dX6_digestWinds_23 (tgt := 57) (by decide) (fun _ hf => ?_) (fun _ hf => ?_)
    · refine lv_iinc (v := (x5 + (1 : Int32))) (lv' := [(5, .int (x5 + (1 : Int32))), (0, .ref x0), (3, .long x3), (6, .int x6)]) hx hb dX6_digestWinds_57 hl (k := 2) rfl rfl (by decide) rfl (fun ls hl => ?_)
      refine lv_goto (tgt := 5) hx hb dX6_digestWinds_60 (by decide) ?_
      exact ik5 x0 x3 (x5 + (1 : Int32)) h H locs ls hH (lv_sub hl [1, 2, 0] rfl) hf
    · refine lv_lload_n hx hb dX6_digestWinds_26 rfl (lv_at hl 1 rfl) ?_
      refine lv_ldc2 hx hb X.2.2.2.1 (X.2.2.2.2.1 _ m_280) dX6_digestWinds_27 ?_
      refine lv_lmul hx hb dX6_digestWinds_30 ?_
      refine lv_aload_n hx hb dX6_digestWinds_31 rfl (lv_at hl 0 rfl) ?_
      refine p_getR X hH fg_RX6_21 hf dX6_digestWinds_32 (fun v3 _ hf => ?_)
      refine lv_iload hx hb dX6_digestWinds_35 (lv_at hl 2 rfl) ?_
      refine p_cVR (As := [.int x5]) (b := v3) (rest := [.long (x3 * (31 : Int64))]) (ci := 0) X hH rfl hf (fun _ _ e_ => c_Jx4a65c_get_915e3 l G v3 x5 h _ _ e_) mv_Jx4a65c_get_915e3 lk_RX6_119 (by decide) rfl hl.1 (Nat.le_of_ble_eq_true rfl) dX6_digestWinds_37 (c2 := 0) (s2 := 0) (by decide) (fun v4 h H locs hH hf => ?_)
      refine p_cast X hH (ci := 6) rfl m_65 hf dX6_digestWinds_40 (fun _ hf => ?_)
      refine lv_iload hx hb dX6_digestWinds_43 (lv_at hl 3 rfl) ?_
      refine p_cVI (As := [.int x6]) (b := v4) (rest := [.long (x3 * (31 : Int64))]) (ci := 6) X hH rfl hf (fun _ _ e_ => c_X5_tell l G v4 x6 h _ _ e_) mv_X5_tell lk_RX6_83 (by decide) rfl hl.1 (Nat.le_of_ble_eq_true rfl) dX6_digestWinds_45 (c2 := 0) (s2 := 0) (by decide) (fun v5 h H locs hH hf => ?_)
      refine lv_i2l (v := (v5).toInt64) hx hb dX6_digestWinds_48 rfl ?_
      refine lv_ladd hx hb dX6_digestWinds_49 ?_
      refine lv_lstore_n (lv' := [(3, .long ((x3 * (31 : Int64)) + ((v5).toInt64))), (0, .ref x0), (5, .int x5), (6, .int x6)]) hx hb dX6_digestWinds_50 rfl hl (by decide) rfl (fun ls hl => ?_)
      refine lv_iinc (v := (x6 + (1 : Int32))) (lv' := [(6, .int (x6 + (1 : Int32))), (3, .long ((x3 * (31 : Int64)) + ((v5).toInt64))), (0, .ref x0), (5, .int x5)]) hx hb dX6_digestWinds_51 hl (k := 3) rfl rfl (by decide) rfl (fun ls hl => ?_)
      refine lv_goto (tgt := 20) hx hb dX6_digestWinds_54 (by decide) ?_
      exact ik20 x0 ((x3 * (31 : Int64)) + ((v5).toInt64)) x5 (x6 + (1 : Int32)) h H locs ls hH (lv_sub hl [2, 1, 3, 0] rfl) hf
set_option maxRecDepth 100000 in
set_option maxHeartbeats 4000000 in
theorem w_X6_digestWinds_b5 {G : GE} {p : Program} (l : Launch) {e : Env} {s : State} {m : MethodId} {args : Array Value} {below : List Frame} {meth : Method} {c : Code} {rr : Int64} {hh : PH} (X : Cx G p s m args meth c cX6_digestWinds 7 RX6 "digestWinds" (some .long)) : ∀ (n : Nat) (x0 : Nat) (x3 : Int64) (x5 : Int32) (h : PH) (H : Heap) (locs : List Loc) (ls : Array Slot) (hH : Hx G s h H locs) (hl : lv_has ls 7 [(0, .ref x0), (3, .long x3), (5, .int x5)]) (hf : f_X6_digestWinds_b5 G n x0 x3 x5 h = some (rr, hh)), W p l e rm_X6_digestWinds s m args below meth c H locs 0 0 (Fq G (some (.long rr)) hh below args s rm_X6_digestWinds.cells rm_X6_digestWinds.slots) (F0 m 5 ls []) := by
  have hx := X.1
  have hb := X.2.1
  intro n
  induction n with
  | zero =>
    intro x0 x3 x5 h H locs ls hH hl hf
    have hf : (none : Option (Int64 × PH)) = some (rr, hh) := hf
    cases hf
  | succ n ih =>
    intro x0 x3 x5 h H locs ls hH hl hf
    have hf : f_X6_digestWinds_b5_body G (f_X6_digestWinds_b5 G n) x0 x3 x5 h = some (rr, hh) := hf
    generalize f_X6_digestWinds_b5 G n = k5 at hf ih
    have ik5 := ih
    unfold f_X6_digestWinds_b5_body at hf
    refine lv_iload hx hb dX6_digestWinds_5 (lv_at hl 2 rfl) ?_
    refine lv_aload_n hx hb dX6_digestWinds_7 rfl (lv_at hl 0 rfl) ?_
    refine p_getR X hH fg_RX6_21 hf dX6_digestWinds_8 (fun v1 _ hf => ?_)
    refine p_cVI (As := []) (b := v1) (rest := [.int x5]) (ci := 0) X hH rfl hf (fun _ _ e_ => c_Jx4a65c_size_8abf5 l G v1 h _ _ e_) mv_Jx4a65c_size_8abf5 lk_RX6_60 (by decide) rfl hl.1 (Nat.le_of_ble_eq_true rfl) dX6_digestWinds_11 (c2 := 0) (s2 := 0) (by decide) (fun v2 h H locs hH hf => ?_)
    refine p_icmp_ge X hf dX6_digestWinds_14 (tgt := 63) (by decide) (fun _ hf => ?_) (fun _ hf => ?_)
    · refine lv_lload_n hx hb dX6_digestWinds_63 rfl (lv_at hl 1 rfl) ?_
      exact p_lret X hH hf (by decide) (by decide) dX6_digestWinds_64
    · refine lv_iconst (v := 0) hx hb dX6_digestWinds_17 (by decide) ?_
      refine lv_istore (lv' := [(6, .int (0 : Int32)), (0, .ref x0), (3, .long x3), (5, .int x5)]) hx hb dX6_digestWinds_18 hl (by decide) rfl (fun ls hl => ?_)
      exact w_X6_digestWinds_b20 l X k5 ik5 LF x0 x3 x5 (0 : Int32) h H locs ls hH (lv_sub hl [1, 2, 3, 0] rfl) hf
set_option maxRecDepth 100000 in
set_option maxHeartbeats 4000000 in
theorem c_X6_digestWinds (l : Launch) (G : GE) (x0 : Nat) (x1 : Int64) (h : PH) (rr : Int64) (hh : PH) (hf : f_X6_digestWinds G x0 x1 h = some (rr, hh)) : Ct l yX6_digestWinds cX6_digestWinds 7 (some .long) rm_X6_digestWinds G [.ref x0, .long x1] h (some (.long rr)) hh := by
  refine Ct.of (plainFor_of_name (by decide)) (Nat.le_of_ble_eq_true rfl) ?_
  intro p e s m args below meth c ls X hH hl
  have hl : lv_has ls 7 [(0, .ref x0), (1, .long x1)] := hl
  have X : Cx G p s m args meth c cX6_digestWinds 7 RX6 "digestWinds" (some .long) := X
  have hx := X.1
  have hb := X.2.1
  unfold f_X6_digestWinds at hf
  obtain ⟨H, hHe⟩ : ∃ z, z = s.heap := ⟨_, rfl⟩
  obtain ⟨locs, hLe⟩ : ∃ z, z = ([] : List Loc) := ⟨_, rfl⟩
  rw [← hHe, ← hLe] at hH
  rw [← hHe, ← hLe]
  refine lv_lload_n hx hb dX6_digestWinds_0 rfl (lv_at hl 1 rfl) ?_
  refine lv_lstore_n (lv' := [(3, .long x1), (0, .ref x0), (1, .long x1)]) hx hb dX6_digestWinds_1 rfl hl (by decide) rfl (fun ls hl => ?_)
  refine lv_iconst (v := 0) hx hb dX6_digestWinds_2 (by decide) ?_
  refine lv_istore (lv' := [(5, .int (0 : Int32)), (3, .long x1), (0, .ref x0), (1, .long x1)]) hx hb dX6_digestWinds_3 hl (by decide) rfl (fun ls hl => ?_)
  exact w_X6_digestWinds_b5 l X LF x0 x1 (0 : Int32) h H locs ls hH (lv_sub hl [2, 1, 0] rfl) hf
set_option maxRecDepth 100000 in
set_option maxHeartbeats 4000000 in
theorem w_X6_digestVanes_b23 {G : GE} {p : Program} (l : Launch) {e : Env} {s : State} {m : MethodId} {args : Array Value} {below : List Frame} {meth : Method} {c : Code} {rr : Int64} {hh : PH} (X : Cx G p s m args meth c cX6_digestVanes 7 RX6 "digestVanes" (some .long)) (k5 : Nat → Int64 → Int32 → PH → Option (Int64 × PH)) (ik5 : ∀ (x0 : Nat) (x3 : Int64) (x5 : Int32) (h : PH) (H : Heap) (locs : List Loc) (ls : Array Slot), Hx G s h H locs → lv_has ls 7 [(0, .ref x0), (3, .long x3), (5, .int x5)] → k5 x0 x3 x5 h = some (rr, hh) → W p l e rm_X6_digestVanes s m args below meth c H locs 0 0 (Fq G (some (.long rr)) hh below args s rm_X6_digestVanes.cells rm_X6_digestVanes.slots) (F0 m 5 ls [])) : ∀ (n : Nat) (x0 : Nat) (x3 : Int64) (x5 : Int32) (x6 : Int32) (h : PH) (H : Heap) (locs : List Loc) (ls : Array Slot) (hH : Hx G s h H locs) (hl : lv_has ls 7 [(0, .ref x0), (3, .long x3), (5, .int x5), (6, .int x6)]) (hf : f_X6_digestVanes_b23 G k5 n x0 x3 x5 x6 h = some (rr, hh)), W p l e rm_X6_digestVanes s m args below meth c H locs 0 0 (Fq G (some (.long rr)) hh below args s rm_X6_digestVanes.cells rm_X6_digestVanes.slots) (F0 m 23 ls []) := by
  have hx := X.1
  have hb := X.2.1
  intro n
  induction n with
  | zero =>
    intro x0 x3 x5 x6 h H locs ls hH hl hf
    have hf : (none : Option (Int64 × PH)) = some (rr, hh) := hf
    cases hf
  | succ n ih =>
    intro x0 x3 x5 x6 h H locs ls hH hl hf
    have hf : f_X6_digestVanes_b23_body G k5 (f_X6_digestVanes_b23 G k5 n) x0 x3 x5 x6 h = some (rr, hh) := hf
    generalize f_X6_digestVanes_b23 G k5 n = k23 at hf ih
    have ik23 := ih
    unfold f_X6_digestVanes_b23_body at hf
    refine lv_iload hx hb dX6_digestVanes_23 (lv_at hl 3 rfl) ?_
    refine lv_bipush (v := 12) hx hb dX6_digestVanes_25 (by decide) ?_
    refine p_icmp_ge X hf dX6_digestVanes_27 (tgt := 72) (by decide) (fun _ hf => ?_) (fun _ hf => ?_)
    · refine lv_iinc (v := (x5 + (1 : Int32))) (lv' := [(5, .int (x5 + (1 : Int32))), (0, .ref x0), (3, .long x3), (6, .int x6)]) hx hb dX6_digestVanes_72 hl (k := 2) rfl rfl (by decide) rfl (fun ls hl => ?_)
      refine lv_goto (tgt := 5) hx hb dX6_digestVanes_75 (by decide) ?_
      exact ik5 x0 x3 (x5 + (1 : Int32)) h H locs ls hH (lv_sub hl [1, 2, 0] rfl) hf
    · refine lv_lload_n hx hb dX6_digestVanes_30 rfl (lv_at hl 1 rfl) ?_
      refine lv_ldc2 hx hb X.2.2.2.1 (X.2.2.2.2.1 _ m_280) dX6_digestVanes_31 ?_
      refine lv_lmul hx hb dX6_digestVanes_34 ?_
      refine lv_aload_n hx hb dX6_digestVanes_35 rfl (lv_at hl 0 rfl) ?_
      refine p_getR X hH fg_RX6_34 hf dX6_digestVanes_36 (fun v4 _ hf => ?_)
      refine p_getR X hH fg_RX6_95 hf dX6_digestVanes_39 (fun v5 _ hf => ?_)
      refine lv_iload hx hb dX6_digestVanes_42 (lv_at hl 2 rfl) ?_
      refine p_cVR (As := [.int x5]) (b := v5) (rest := [.long (x3 * (31 : Int64))]) (ci := 0) X hH rfl hf (fun _ _ e_ => c_Jx4a65c_get_915e3 l G v5 x5 h _ _ e_) mv_Jx4a65c_get_915e3 lk_RX6_119 (by decide) rfl hl.1 (Nat.le_of_ble_eq_true rfl) dX6_digestVanes_44 (c2 := 0) (s2 := 0) (by decide) (fun v6 h H locs hH hf => ?_)
      refine p_cast X hH (ci := 5) rfl m_261 hf dX6_digestVanes_47 (fun _ hf => ?_)
      refine lv_iload hx hb dX6_digestVanes_50 (lv_at hl 3 rfl) ?_
      refine lv_aload_n hx hb dX6_digestVanes_52 rfl (lv_at hl 0 rfl) ?_
      refine lv_aload_n hx hb dX6_digestVanes_53 rfl (lv_at hl 0 rfl) ?_
      refine p_getI X hH fg_RX6_145 hf dX6_digestVanes_54 (fun v7 _ hf => ?_)
      refine p_cVR (As := [.int v7]) (b := x0) (rest := [.int x6, .ref v6, .long (x3 * (31 : Int64))]) (ci := 7) X hH rfl hf (fun _ _ e_ => c_X6_windAt l G x0 v7 h _ _ e_) mv_X6_windAt lk_RX6_79 (by decide) rfl hl.1 (Nat.le_of_ble_eq_true rfl) dX6_digestVanes_57 (c2 := 0) (s2 := 0) (by decide) (fun v8 h H locs hH hf => ?_)
      refine p_cVI (As := [.int x6, .ref v8]) (b := v6) (rest := [.long (x3 * (31 : Int64))]) (ci := 5) X hH rfl hf (fun _ _ e_ => c_X4_tell l G v6 x6 v8 h _ _ e_) mv_X4_tell lk_RX6_148 (by decide) rfl hl.1 (Nat.le_of_ble_eq_true rfl) dX6_digestVanes_60 (c2 := 0) (s2 := 0) (by decide) (fun v9 h H locs hH hf => ?_)
      refine lv_i2l (v := (v9).toInt64) hx hb dX6_digestVanes_63 rfl ?_
      refine lv_ladd hx hb dX6_digestVanes_64 ?_
      refine lv_lstore_n (lv' := [(3, .long ((x3 * (31 : Int64)) + ((v9).toInt64))), (0, .ref x0), (5, .int x5), (6, .int x6)]) hx hb dX6_digestVanes_65 rfl hl (by decide) rfl (fun ls hl => ?_)
      refine lv_iinc (v := (x6 + (1 : Int32))) (lv' := [(6, .int (x6 + (1 : Int32))), (3, .long ((x3 * (31 : Int64)) + ((v9).toInt64))), (0, .ref x0), (5, .int x5)]) hx hb dX6_digestVanes_66 hl (k := 3) rfl rfl (by decide) rfl (fun ls hl => ?_)
      refine lv_goto (tgt := 23) hx hb dX6_digestVanes_69 (by decide) ?_
      exact ik23 x0 ((x3 * (31 : Int64)) + ((v9).toInt64)) x5 (x6 + (1 : Int32)) h H locs ls hH (lv_sub hl [2, 1, 3, 0] rfl) hf
set_option maxRecDepth 100000 in
set_option maxHeartbeats 4000000 in
theorem w_X6_digestVanes_b5 {G : GE} {p : Program} (l : Launch) {e : Env} {s : State} {m : MethodId} {args : Array Value} {below : List Frame} {meth : Method} {c : Code} {rr : Int64} {hh : PH} (X : Cx G p s m args meth c cX6_digestVanes 7 RX6 "digestVanes" (some .long)) : ∀ (n : Nat) (x0 : Nat) (x3 : Int64) (x5 : Int32) (h : PH) (H : Heap) (locs : List Loc) (ls : Array Slot) (hH : Hx G s h H locs) (hl : lv_has ls 7 [(0, .ref x0), (3, .long x3), (5, .int x5)]) (hf : f_X6_digestVanes_b5 G n x0 x3 x5 h = some (rr, hh)), W p l e rm_X6_digestVanes s m args below meth c H locs 0 0 (Fq G (some (.long rr)) hh below args s rm_X6_digestVanes.cells rm_X6_digestVanes.slots) (F0 m 5 ls []) := by
  have hx := X.1
  have hb := X.2.1
  intro n
  induction n with
  | zero =>
    intro x0 x3 x5 h H locs ls hH hl hf
    have hf : (none : Option (Int64 × PH)) = some (rr, hh) := hf
    cases hf
  | succ n ih =>
    intro x0 x3 x5 h H locs ls hH hl hf
    have hf : f_X6_digestVanes_b5_body G (f_X6_digestVanes_b5 G n) x0 x3 x5 h = some (rr, hh) := hf
    generalize f_X6_digestVanes_b5 G n = k5 at hf ih
    have ik5 := ih
    unfold f_X6_digestVanes_b5_body at hf
    refine lv_iload hx hb dX6_digestVanes_5 (lv_at hl 2 rfl) ?_
    refine lv_aload_n hx hb dX6_digestVanes_7 rfl (lv_at hl 0 rfl) ?_
    refine p_getR X hH fg_RX6_34 hf dX6_digestVanes_8 (fun v1 _ hf => ?_)
    refine p_getR X hH fg_RX6_95 hf dX6_digestVanes_11 (fun v2 _ hf => ?_)
    refine p_cVI (As := []) (b := v2) (rest := [.int x5]) (ci := 0) X hH rfl hf (fun _ _ e_ => c_Jx4a65c_size_8abf5 l G v2 h _ _ e_) mv_Jx4a65c_size_8abf5 lk_RX6_60 (by decide) rfl hl.1 (Nat.le_of_ble_eq_true rfl) dX6_digestVanes_14 (c2 := 0) (s2 := 0) (by decide) (fun v3 h H locs hH hf => ?_)
    refine p_icmp_ge X hf dX6_digestVanes_17 (tgt := 78) (by decide) (fun _ hf => ?_) (fun _ hf => ?_)
    · refine lv_lload_n hx hb dX6_digestVanes_78 rfl (lv_at hl 1 rfl) ?_
      exact p_lret X hH hf (by decide) (by decide) dX6_digestVanes_79
    · refine lv_iconst (v := 0) hx hb dX6_digestVanes_20 (by decide) ?_
      refine lv_istore (lv' := [(6, .int (0 : Int32)), (0, .ref x0), (3, .long x3), (5, .int x5)]) hx hb dX6_digestVanes_21 hl (by decide) rfl (fun ls hl => ?_)
      exact w_X6_digestVanes_b23 l X k5 ik5 LF x0 x3 x5 (0 : Int32) h H locs ls hH (lv_sub hl [1, 2, 3, 0] rfl) hf
set_option maxRecDepth 100000 in
set_option maxHeartbeats 4000000 in
theorem c_X6_digestVanes (l : Launch) (G : GE) (x0 : Nat) (x1 : Int64) (h : PH) (rr : Int64) (hh : PH) (hf : f_X6_digestVanes G x0 x1 h = some (rr, hh)) : Ct l yX6_digestVanes cX6_digestVanes 7 (some .long) rm_X6_digestVanes G [.ref x0, .long x1] h (some (.long rr)) hh := by
  refine Ct.of (plainFor_of_name (by decide)) (Nat.le_of_ble_eq_true rfl) ?_
  intro p e s m args below meth c ls X hH hl
  have hl : lv_has ls 7 [(0, .ref x0), (1, .long x1)] := hl
  have X : Cx G p s m args meth c cX6_digestVanes 7 RX6 "digestVanes" (some .long) := X
  have hx := X.1
  have hb := X.2.1
  unfold f_X6_digestVanes at hf
  obtain ⟨H, hHe⟩ : ∃ z, z = s.heap := ⟨_, rfl⟩
  obtain ⟨locs, hLe⟩ : ∃ z, z = ([] : List Loc) := ⟨_, rfl⟩
  rw [← hHe, ← hLe] at hH
  rw [← hHe, ← hLe]
  refine lv_lload_n hx hb dX6_digestVanes_0 rfl (lv_at hl 1 rfl) ?_
  refine lv_lstore_n (lv' := [(3, .long x1), (0, .ref x0), (1, .long x1)]) hx hb dX6_digestVanes_1 rfl hl (by decide) rfl (fun ls hl => ?_)
  refine lv_iconst (v := 0) hx hb dX6_digestVanes_2 (by decide) ?_
  refine lv_istore (lv' := [(5, .int (0 : Int32)), (3, .long x1), (0, .ref x0), (1, .long x1)]) hx hb dX6_digestVanes_3 hl (by decide) rfl (fun ls hl => ?_)
  exact w_X6_digestVanes_b5 l X LF x0 x1 (0 : Int32) h H locs ls hH (lv_sub hl [2, 1, 0] rfl) hf
set_option maxRecDepth 100000 in
set_option maxHeartbeats 4000000 in
theorem w_X6_digestMotions_b20 {G : GE} {p : Program} (l : Launch) {e : Env} {s : State} {m : MethodId} {args : Array Value} {below : List Frame} {meth : Method} {c : Code} {rr : Int64} {hh : PH} (X : Cx G p s m args meth c cX6_digestMotions 7 RX6 "digestMotions" (some .long)) (k5 : Nat → Int64 → Int32 → PH → Option (Int64 × PH)) (ik5 : ∀ (x0 : Nat) (x3 : Int64) (x5 : Int32) (h : PH) (H : Heap) (locs : List Loc) (ls : Array Slot), Hx G s h H locs → lv_has ls 7 [(0, .ref x0), (3, .long x3), (5, .int x5)] → k5 x0 x3 x5 h = some (rr, hh) → W p l e rm_X6_digestMotions s m args below meth c H locs 0 0 (Fq G (some (.long rr)) hh below args s rm_X6_digestMotions.cells rm_X6_digestMotions.slots) (F0 m 5 ls [])) : ∀ (n : Nat) (x0 : Nat) (x3 : Int64) (x5 : Int32) (x6 : Int32) (h : PH) (H : Heap) (locs : List Loc) (ls : Array Slot) (hH : Hx G s h H locs) (hl : lv_has ls 7 [(0, .ref x0), (3, .long x3), (5, .int x5), (6, .int x6)]) (hf : f_X6_digestMotions_b20 G k5 n x0 x3 x5 x6 h = some (rr, hh)), W p l e rm_X6_digestMotions s m args below meth c H locs 0 0 (Fq G (some (.long rr)) hh below args s rm_X6_digestMotions.cells rm_X6_digestMotions.slots) (F0 m 20 ls []) := by
  have hx := X.1
  have hb := X.2.1
  intro n
  induction n with
  | zero =>
    intro x0 x3 x5 x6 h H locs ls hH hl hf
    have hf : (none : Option (Int64 × PH)) = some (rr, hh) := hf
    cases hf
  | succ n ih =>
    intro x0 x3 x5 x6 h H locs ls hH hl hf
    have hf : f_X6_digestMotions_b20_body G k5 (f_X6_digestMotions_b20 G k5 n) x0 x3 x5 x6 h = some (rr, hh) := hf
    generalize f_X6_digestMotions_b20 G k5 n = k20 at hf ih
    have ik20 := ih
    unfold f_X6_digestMotions_b20_body at hf
    refine lv_iload hx hb dX6_digestMotions_20 (lv_at hl 3 rfl) ?_
    refine lv_bipush (v := 9) hx hb dX6_digestMotions_22 (by decide) ?_
    refine p_icmp_ge X hf dX6_digestMotions_24 (tgt := 62) (by decide) (fun _ hf => ?_) (fun _ hf => ?_)
    · refine lv_iinc (v := (x5 + (1 : Int32))) (lv' := [(5, .int (x5 + (1 : Int32))), (0, .ref x0), (3, .long x3), (6, .int x6)]) hx hb dX6_digestMotions_62 hl (k := 2) rfl rfl (by decide) rfl (fun ls hl => ?_)
      refine lv_goto (tgt := 5) hx hb dX6_digestMotions_65 (by decide) ?_
      exact ik5 x0 x3 (x5 + (1 : Int32)) h H locs ls hH (lv_sub hl [1, 2, 0] rfl) hf
    · refine lv_lload_n hx hb dX6_digestMotions_27 rfl (lv_at hl 1 rfl) ?_
      refine lv_ldc2 hx hb X.2.2.2.1 (X.2.2.2.2.1 _ m_280) dX6_digestMotions_28 ?_
      refine lv_lmul hx hb dX6_digestMotions_31 ?_
      refine lv_aload_n hx hb dX6_digestMotions_32 rfl (lv_at hl 0 rfl) ?_
      refine p_getR X hH fg_RX6_25 hf dX6_digestMotions_33 (fun v3 _ hf => ?_)
      refine lv_iload hx hb dX6_digestMotions_36 (lv_at hl 2 rfl) ?_
      refine p_cVR (As := [.int x5]) (b := v3) (rest := [.long (x3 * (31 : Int64))]) (ci := 0) X hH rfl hf (fun _ _ e_ => c_Jx4a65c_get_915e3 l G v3 x5 h _ _ e_) mv_Jx4a65c_get_915e3 lk_RX6_119 (by decide) rfl hl.1 (Nat.le_of_ble_eq_true rfl) dX6_digestMotions_38 (c2 := 0) (s2 := 0) (by decide) (fun v4 h H locs hH hf => ?_)
      refine p_cast X hH (ci := 3) rfl m_327 hf dX6_digestMotions_41 (fun _ hf => ?_)
      refine lv_iload hx hb dX6_digestMotions_44 (lv_at hl 3 rfl) ?_
      refine lv_aload_n hx hb dX6_digestMotions_46 rfl (lv_at hl 0 rfl) ?_
      refine p_getR X hH fg_RX6_34 hf dX6_digestMotions_47 (fun v5 _ hf => ?_)
      refine p_cVI (As := [.int x6, .ref v5]) (b := v4) (rest := [.long (x3 * (31 : Int64))]) (ci := 3) X hH rfl hf (fun _ _ e_ => c_X2_tell l G v4 x6 v5 h _ _ e_) mv_X2_tell lk_RX6_180 (by decide) rfl hl.1 (Nat.le_of_ble_eq_true rfl) dX6_digestMotions_50 (c2 := 0) (s2 := 0) (by decide) (fun v6 h H locs hH hf => ?_)
      refine lv_i2l (v := (v6).toInt64) hx hb dX6_digestMotions_53 rfl ?_
      refine lv_ladd hx hb dX6_digestMotions_54 ?_
      refine lv_lstore_n (lv' := [(3, .long ((x3 * (31 : Int64)) + ((v6).toInt64))), (0, .ref x0), (5, .int x5), (6, .int x6)]) hx hb dX6_digestMotions_55 rfl hl (by decide) rfl (fun ls hl => ?_)
      refine lv_iinc (v := (x6 + (1 : Int32))) (lv' := [(6, .int (x6 + (1 : Int32))), (3, .long ((x3 * (31 : Int64)) + ((v6).toInt64))), (0, .ref x0), (5, .int x5)]) hx hb dX6_digestMotions_56 hl (k := 3) rfl rfl (by decide) rfl (fun ls hl => ?_)
      refine lv_goto (tgt := 20) hx hb dX6_digestMotions_59 (by decide) ?_
      exact ik20 x0 ((x3 * (31 : Int64)) + ((v6).toInt64)) x5 (x6 + (1 : Int32)) h H locs ls hH (lv_sub hl [2, 1, 3, 0] rfl) hf
set_option maxRecDepth 100000 in
set_option maxHeartbeats 4000000 in
theorem w_X6_digestMotions_b5 {G : GE} {p : Program} (l : Launch) {e : Env} {s : State} {m : MethodId} {args : Array Value} {below : List Frame} {meth : Method} {c : Code} {rr : Int64} {hh : PH} (X : Cx G p s m args meth c cX6_digestMotions 7 RX6 "digestMotions" (some .long)) : ∀ (n : Nat) (x0 : Nat) (x3 : Int64) (x5 : Int32) (h : PH) (H : Heap) (locs : List Loc) (ls : Array Slot) (hH : Hx G s h H locs) (hl : lv_has ls 7 [(0, .ref x0), (3, .long x3), (5, .int x5)]) (hf : f_X6_digestMotions_b5 G n x0 x3 x5 h = some (rr, hh)), W p l e rm_X6_digestMotions s m args below meth c H locs 0 0 (Fq G (some (.long rr)) hh below args s rm_X6_digestMotions.cells rm_X6_digestMotions.slots) (F0 m 5 ls []) := by
  have hx := X.1
  have hb := X.2.1
  intro n
  induction n with
  | zero =>
    intro x0 x3 x5 h H locs ls hH hl hf
    have hf : (none : Option (Int64 × PH)) = some (rr, hh) := hf
    cases hf
  | succ n ih =>
    intro x0 x3 x5 h H locs ls hH hl hf
    have hf : f_X6_digestMotions_b5_body G (f_X6_digestMotions_b5 G n) x0 x3 x5 h = some (rr, hh) := hf
    generalize f_X6_digestMotions_b5 G n = k5 at hf ih
    have ik5 := ih
    unfold f_X6_digestMotions_b5_body at hf
    refine lv_iload hx hb dX6_digestMotions_5 (lv_at hl 2 rfl) ?_
    refine lv_aload_n hx hb dX6_digestMotions_7 rfl (lv_at hl 0 rfl) ?_
    refine p_getR X hH fg_RX6_25 hf dX6_digestMotions_8 (fun v1 _ hf => ?_)
    refine p_cVI (As := []) (b := v1) (rest := [.int x5]) (ci := 0) X hH rfl hf (fun _ _ e_ => c_Jx4a65c_size_8abf5 l G v1 h _ _ e_) mv_Jx4a65c_size_8abf5 lk_RX6_60 (by decide) rfl hl.1 (Nat.le_of_ble_eq_true rfl) dX6_digestMotions_11 (c2 := 0) (s2 := 0) (by decide) (fun v2 h H locs hH hf => ?_)
    refine p_icmp_ge X hf dX6_digestMotions_14 (tgt := 68) (by decide) (fun _ hf => ?_) (fun _ hf => ?_)
    · refine lv_lload_n hx hb dX6_digestMotions_68 rfl (lv_at hl 1 rfl) ?_
      exact p_lret X hH hf (by decide) (by decide) dX6_digestMotions_69
    · refine lv_iconst (v := 0) hx hb dX6_digestMotions_17 (by decide) ?_
      refine lv_istore (lv' := [(6, .int (0 : Int32)), (0, .ref x0), (3, .long x3), (5, .int x5)]) hx hb dX6_digestMotions_18 hl (by decide) rfl (fun ls hl => ?_)
      exact w_X6_digestMotions_b20 l X k5 ik5 LF x0 x3 x5 (0 : Int32) h H locs ls hH (lv_sub hl [1, 2, 3, 0] rfl) hf
set_option maxRecDepth 100000 in
set_option maxHeartbeats 4000000 in
theorem c_X6_digestMotions (l : Launch) (G : GE) (x0 : Nat) (x1 : Int64) (h : PH) (rr : Int64) (hh : PH) (hf : f_X6_digestMotions G x0 x1 h = some (rr, hh)) : Ct l yX6_digestMotions cX6_digestMotions 7 (some .long) rm_X6_digestMotions G [.ref x0, .long x1] h (some (.long rr)) hh := by
  refine Ct.of (plainFor_of_name (by decide)) (Nat.le_of_ble_eq_true rfl) ?_
  intro p e s m args below meth c ls X hH hl
  have hl : lv_has ls 7 [(0, .ref x0), (1, .long x1)] := hl
  have X : Cx G p s m args meth c cX6_digestMotions 7 RX6 "digestMotions" (some .long) := X
  have hx := X.1
  have hb := X.2.1
  unfold f_X6_digestMotions at hf
  obtain ⟨H, hHe⟩ : ∃ z, z = s.heap := ⟨_, rfl⟩
  obtain ⟨locs, hLe⟩ : ∃ z, z = ([] : List Loc) := ⟨_, rfl⟩
  rw [← hHe, ← hLe] at hH
  rw [← hHe, ← hLe]
  refine lv_lload_n hx hb dX6_digestMotions_0 rfl (lv_at hl 1 rfl) ?_
  refine lv_lstore_n (lv' := [(3, .long x1), (0, .ref x0), (1, .long x1)]) hx hb dX6_digestMotions_1 rfl hl (by decide) rfl (fun ls hl => ?_)
  refine lv_iconst (v := 0) hx hb dX6_digestMotions_2 (by decide) ?_
  refine lv_istore (lv' := [(5, .int (0 : Int32)), (3, .long x1), (0, .ref x0), (1, .long x1)]) hx hb dX6_digestMotions_3 hl (by decide) rfl (fun ls hl => ?_)
  exact w_X6_digestMotions_b5 l X LF x0 x1 (0 : Int32) h H locs ls hH (lv_sub hl [2, 1, 0] rfl) hf
set_option maxRecDepth 100000 in
set_option maxHeartbeats 4000000 in
theorem w_X6_digest_b51 {G : GE} {p : Program} (l : Launch) {e : Env} {s : State} {m : MethodId} {args : Array Value} {below : List Frame} {meth : Method} {c : Code} {rr : Int64} {hh : PH} (X : Cx G p s m args meth c cX6_digest 4 RX6 "digest" (some .long)) : ∀ (n : Nat) (x0 : Nat) (x1 : Int64) (x3 : Int32) (h : PH) (H : Heap) (locs : List Loc) (ls : Array Slot) (hH : Hx G s h H locs) (hl : lv_has ls 4 [(0, .ref x0), (1, .long x1), (3, .int x3)]) (hf : f_X6_digest_b51 G n x0 x1 x3 h = some (rr, hh)), W p l e rm_X6_digest s m args below meth c H locs 0 0 (Fq G (some (.long rr)) hh below args s rm_X6_digest.cells rm_X6_digest.slots) (F0 m 51 ls []) := by
  have hx := X.1
  have hb := X.2.1
  intro n
  induction n with
  | zero =>
    intro x0 x1 x3 h H locs ls hH hl hf
    have hf : (none : Option (Int64 × PH)) = some (rr, hh) := hf
    cases hf
  | succ n ih =>
    intro x0 x1 x3 h H locs ls hH hl hf
    have hf : f_X6_digest_b51_body G (f_X6_digest_b51 G n) x0 x1 x3 h = some (rr, hh) := hf
    generalize f_X6_digest_b51 G n = k51 at hf ih
    have ik51 := ih
    unfold f_X6_digest_b51_body at hf
    refine lv_iload_n hx hb dX6_digest_51 rfl (lv_at hl 2 rfl) ?_
    refine lv_aload_n hx hb dX6_digest_52 rfl (lv_at hl 0 rfl) ?_
    refine p_getR X hH fg_RX6_28 hf dX6_digest_53 (fun v5 _ hf => ?_)
    refine p_cVI (As := []) (b := v5) (rest := [.int x3]) (ci := 0) X hH rfl hf (fun _ _ e_ => c_Jx4a65c_size_8abf5 l G v5 h _ _ e_) mv_Jx4a65c_size_8abf5 lk_RX6_60 (by decide) rfl hl.1 (Nat.le_of_ble_eq_true rfl) dX6_digest_56 (c2 := 0) (s2 := 0) (by decide) (fun v6 h H locs hH hf => ?_)
    refine p_icmp_ge X hf dX6_digest_59 (tgt := 115) (by decide) (fun _ hf => ?_) (fun _ hf => ?_)
    · refine lv_lload_n hx hb dX6_digest_115 rfl (lv_at hl 1 rfl) ?_
      exact p_lret X hH hf (by decide) (by decide) dX6_digest_116
    · refine lv_lload_n hx hb dX6_digest_62 rfl (lv_at hl 1 rfl) ?_
      refine lv_ldc2 hx hb X.2.2.2.1 (X.2.2.2.2.1 _ m_280) dX6_digest_63 ?_
      refine lv_lmul hx hb dX6_digest_66 ?_
      refine lv_aload_n hx hb dX6_digest_67 rfl (lv_at hl 0 rfl) ?_
      refine p_getR X hH fg_RX6_28 hf dX6_digest_68 (fun v7 _ hf => ?_)
      refine lv_iload_n hx hb dX6_digest_71 rfl (lv_at hl 2 rfl) ?_
      refine p_cVR (As := [.int x3]) (b := v7) (rest := [.long (x1 * (31 : Int64))]) (ci := 0) X hH rfl hf (fun _ _ e_ => c_Jx4a65c_get_915e3 l G v7 x3 h _ _ e_) mv_Jx4a65c_get_915e3 lk_RX6_119 (by decide) rfl hl.1 (Nat.le_of_ble_eq_true rfl) dX6_digest_72 (c2 := 0) (s2 := 0) (by decide) (fun v8 h H locs hH hf => ?_)
      refine p_cast X hH (ci := 1) rfl m_346 hf dX6_digest_75 (fun _ hf => ?_)
      refine p_getR X hH fg_RX6_257 hf dX6_digest_78 (fun v9 _ hf => ?_)
      refine p_getI X hH fg_RX6_261 hf dX6_digest_81 (fun v10 _ hf => ?_)
      refine lv_i2l (v := (v10).toInt64) hx hb dX6_digest_84 rfl ?_
      refine lv_ladd hx hb dX6_digest_85 ?_
      refine lv_lstore_n (lv' := [(1, .long ((x1 * (31 : Int64)) + ((v10).toInt64))), (0, .ref x0), (3, .int x3)]) hx hb dX6_digest_86 rfl hl (by decide) rfl (fun ls hl => ?_)
      refine lv_lload_n hx hb dX6_digest_87 rfl (lv_at hl 0 rfl) ?_
      refine lv_ldc2 hx hb X.2.2.2.1 (X.2.2.2.2.1 _ m_280) dX6_digest_88 ?_
      refine lv_lmul hx hb dX6_digest_91 ?_
      refine lv_aload_n hx hb dX6_digest_92 rfl (lv_at hl 1 rfl) ?_
      refine p_getR X hH fg_RX6_28 hf dX6_digest_93 (fun v11 _ hf => ?_)
      refine lv_iload_n hx hb dX6_digest_96 rfl (lv_at hl 2 rfl) ?_
      refine p_cVR (As := [.int x3]) (b := v11) (rest := [.long (((x1 * (31 : Int64)) + ((v10).toInt64)) * (31 : Int64))]) (ci := 0) X hH rfl hf (fun _ _ e_ => c_Jx4a65c_get_915e3 l G v11 x3 h _ _ e_) mv_Jx4a65c_get_915e3 lk_RX6_119 (by decide) rfl hl.1 (Nat.le_of_ble_eq_true rfl) dX6_digest_97 (c2 := 0) (s2 := 0) (by decide) (fun v12 h H locs hH hf => ?_)
      refine p_cast X hH (ci := 1) rfl m_346 hf dX6_digest_100 (fun _ hf => ?_)
      refine p_getI X hH fg_RX6_264 hf dX6_digest_103 (fun v13 _ hf => ?_)
      refine lv_i2l (v := (v13).toInt64) hx hb dX6_digest_106 rfl ?_
      refine lv_ladd hx hb dX6_digest_107 ?_
      refine lv_lstore_n (lv' := [(1, .long ((((x1 * (31 : Int64)) + ((v10).toInt64)) * (31 : Int64)) + ((v13).toInt64))), (0, .ref x0), (3, .int x3)]) hx hb dX6_digest_108 rfl hl (by decide) rfl (fun ls hl => ?_)
      refine lv_iinc (v := (x3 + (1 : Int32))) (lv' := [(3, .int (x3 + (1 : Int32))), (1, .long ((((x1 * (31 : Int64)) + ((v10).toInt64)) * (31 : Int64)) + ((v13).toInt64))), (0, .ref x0)]) hx hb dX6_digest_109 hl (k := 2) rfl rfl (by decide) rfl (fun ls hl => ?_)
      refine lv_goto (tgt := 51) hx hb dX6_digest_112 (by decide) ?_
      exact ik51 x0 ((((x1 * (31 : Int64)) + ((v10).toInt64)) * (31 : Int64)) + ((v13).toInt64)) (x3 + (1 : Int32)) h H locs ls hH (lv_sub hl [2, 1, 0] rfl) hf
set_option maxRecDepth 100000 in
set_option maxHeartbeats 4000000 in
theorem w_X6_digest_b6 {G : GE} {p : Program} (l : Launch) {e : Env} {s : State} {m : MethodId} {args : Array Value} {below : List Frame} {meth : Method} {c : Code} {rr : Int64} {hh : PH} (X : Cx G p s m args meth c cX6_digest 4 RX6 "digest" (some .long)) : ∀ (n : Nat) (x0 : Nat) (x1 : Int64) (x3 : Int32) (h : PH) (H : Heap) (locs : List Loc) (ls : Array Slot) (hH : Hx G s h H locs) (hl : lv_has ls 4 [(0, .ref x0), (1, .long x1), (3, .int x3)]) (hf : f_X6_digest_b6 G n x0 x1 x3 h = some (rr, hh)), W p l e rm_X6_digest s m args below meth c H locs 0 0 (Fq G (some (.long rr)) hh below args s rm_X6_digest.cells rm_X6_digest.slots) (F0 m 6 ls []) := by
  have hx := X.1
  have hb := X.2.1
  intro n
  induction n with
  | zero =>
    intro x0 x1 x3 h H locs ls hH hl hf
    have hf : (none : Option (Int64 × PH)) = some (rr, hh) := hf
    cases hf
  | succ n ih =>
    intro x0 x1 x3 h H locs ls hH hl hf
    have hf : f_X6_digest_b6_body G (f_X6_digest_b6 G n) x0 x1 x3 h = some (rr, hh) := hf
    generalize f_X6_digest_b6 G n = k6 at hf ih
    have ik6 := ih
    unfold f_X6_digest_b6_body at hf
    refine lv_iload_n hx hb dX6_digest_6 rfl (lv_at hl 2 rfl) ?_
    refine lv_bipush (v := 9) hx hb dX6_digest_7 (by decide) ?_
    refine p_icmp_ge X hf dX6_digest_9 (tgt := 31) (by decide) (fun _ hf => ?_) (fun _ hf => ?_)
    · refine lv_aload_n hx hb dX6_digest_31 rfl (lv_at hl 0 rfl) ?_
      refine lv_lload_n hx hb dX6_digest_32 rfl (lv_at hl 1 rfl) ?_
      refine p_cVJ (As := [.long x1]) (b := x0) (rest := []) (ci := 7) X hH rfl hf (fun _ _ e_ => c_X6_digestWinds l G x0 x1 h _ _ e_) mv_X6_digestWinds lk_RX6_247 (by decide) rfl hl.1 (Nat.le_of_ble_eq_true rfl) dX6_digest_33 (c2 := 0) (s2 := 0) (by decide) (fun v1 h H locs hH hf => ?_)
      refine lv_lstore_n (lv' := [(1, .long v1), (0, .ref x0), (3, .int x3)]) hx hb dX6_digest_36 rfl hl (by decide) rfl (fun ls hl => ?_)
      refine lv_aload_n hx hb dX6_digest_37 rfl (lv_at hl 1 rfl) ?_
      refine lv_lload_n hx hb dX6_digest_38 rfl (lv_at hl 0 rfl) ?_
      refine p_cVJ (As := [.long v1]) (b := x0) (rest := []) (ci := 7) X hH rfl hf (fun _ _ e_ => c_X6_digestVanes l G x0 v1 h _ _ e_) mv_X6_digestVanes lk_RX6_251 (by decide) rfl hl.1 (Nat.le_of_ble_eq_true rfl) dX6_digest_39 (c2 := 0) (s2 := 0) (by decide) (fun v2 h H locs hH hf => ?_)
      refine lv_lstore_n (lv' := [(1, .long v2), (0, .ref x0), (3, .int x3)]) hx hb dX6_digest_42 rfl hl (by decide) rfl (fun ls hl => ?_)
      refine lv_aload_n hx hb dX6_digest_43 rfl (lv_at hl 1 rfl) ?_
      refine lv_lload_n hx hb dX6_digest_44 rfl (lv_at hl 0 rfl) ?_
      refine p_cVJ (As := [.long v2]) (b := x0) (rest := []) (ci := 7) X hH rfl hf (fun _ _ e_ => c_X6_digestMotions l G x0 v2 h _ _ e_) mv_X6_digestMotions lk_RX6_254 (by decide) rfl hl.1 (Nat.le_of_ble_eq_true rfl) dX6_digest_45 (c2 := 0) (s2 := 0) (by decide) (fun v3 h H locs hH hf => ?_)
      refine lv_lstore_n (lv' := [(1, .long v3), (0, .ref x0), (3, .int x3)]) hx hb dX6_digest_48 rfl hl (by decide) rfl (fun ls hl => ?_)
      refine lv_iconst (v := 0) hx hb dX6_digest_49 (by decide) ?_
      refine lv_istore_n (lv' := [(3, .int (0 : Int32)), (1, .long v3), (0, .ref x0)]) hx hb dX6_digest_50 rfl hl (by decide) rfl (fun ls hl => ?_)
      exact w_X6_digest_b51 l X LF x0 v3 (0 : Int32) h H locs ls hH (lv_sub hl [2, 1, 0] rfl) hf
    · refine lv_lload_n hx hb dX6_digest_12 rfl (lv_at hl 1 rfl) ?_
      refine lv_ldc2 hx hb X.2.2.2.1 (X.2.2.2.2.1 _ m_280) dX6_digest_13 ?_
      refine lv_lmul hx hb dX6_digest_16 ?_
      refine lv_aload_n hx hb dX6_digest_17 rfl (lv_at hl 0 rfl) ?_
      refine lv_iload_n hx hb dX6_digest_18 rfl (lv_at hl 2 rfl) ?_
      refine p_cVI (As := [.int x3]) (b := x0) (rest := [.long (x1 * (31 : Int64))]) (ci := 7) X hH rfl hf (fun _ _ e_ => c_X6_tally l G x0 x3 h _ _ e_) mv_X6_tally lk_RX6_207 (by decide) rfl hl.1 (Nat.le_of_ble_eq_true rfl) dX6_digest_19 (c2 := 0) (s2 := 0) (by decide) (fun v4 h H locs hH hf => ?_)
      refine lv_i2l (v := (v4).toInt64) hx hb dX6_digest_22 rfl ?_
      refine lv_ladd hx hb dX6_digest_23 ?_
      refine lv_lstore_n (lv' := [(1, .long ((x1 * (31 : Int64)) + ((v4).toInt64))), (0, .ref x0), (3, .int x3)]) hx hb dX6_digest_24 rfl hl (by decide) rfl (fun ls hl => ?_)
      refine lv_iinc (v := (x3 + (1 : Int32))) (lv' := [(3, .int (x3 + (1 : Int32))), (1, .long ((x1 * (31 : Int64)) + ((v4).toInt64))), (0, .ref x0)]) hx hb dX6_digest_25 hl (k := 2) rfl rfl (by decide) rfl (fun ls hl => ?_)
      refine lv_goto (tgt := 6) hx hb dX6_digest_28 (by decide) ?_
      exact ik6 x0 ((x1 * (31 : Int64)) + ((v4).toInt64)) (x3 + (1 : Int32)) h H locs ls hH (lv_sub hl [2, 1, 0] rfl) hf
set_option maxRecDepth 100000 in
set_option maxHeartbeats 4000000 in
theorem c_X6_digest (l : Launch) (G : GE) (x0 : Nat) (h : PH) (rr : Int64) (hh : PH) (hf : f_X6_digest G x0 h = some (rr, hh)) : Ct l yX6_digest cX6_digest 4 (some .long) rm_X6_digest G [.ref x0] h (some (.long rr)) hh := by
  refine Ct.of (plainFor_of_name (by decide)) (Nat.le_of_ble_eq_true rfl) ?_
  intro p e s m args below meth c ls X hH hl
  have hl : lv_has ls 4 [(0, .ref x0)] := hl
  have X : Cx G p s m args meth c cX6_digest 4 RX6 "digest" (some .long) := X
  have hx := X.1
  have hb := X.2.1
  unfold f_X6_digest at hf
  obtain ⟨H, hHe⟩ : ∃ z, z = s.heap := ⟨_, rfl⟩
  obtain ⟨locs, hLe⟩ : ∃ z, z = ([] : List Loc) := ⟨_, rfl⟩
  rw [← hHe, ← hLe] at hH
  rw [← hHe, ← hLe]
  refine lv_ldc2 hx hb X.2.2.2.1 (X.2.2.2.2.1 _ m_279) dX6_digest_0 ?_
  refine lv_lstore_n (lv' := [(1, .long (503 : Int64)), (0, .ref x0)]) hx hb dX6_digest_3 rfl hl (by decide) rfl (fun ls hl => ?_)
  refine lv_iconst (v := 0) hx hb dX6_digest_4 (by decide) ?_
  refine lv_istore_n (lv' := [(3, .int (0 : Int32)), (1, .long (503 : Int64)), (0, .ref x0)]) hx hb dX6_digest_5 rfl hl (by decide) rfl (fun ls hl => ?_)
  exact w_X6_digest_b6 l X LF x0 (503 : Int64) (0 : Int32) h H locs ls hH (lv_sub hl [2, 1, 0] rfl) hf
set_option maxRecDepth 100000 in
set_option maxHeartbeats 4000000 in
theorem c_X7_init (l : Launch) (G : GE) (x0 : Nat) (h : PH) (rr : Unit) (hh : PH) (hf : f_X7_init G x0 h = some (rr, hh)) : Ct l yX7_init cX7_init 1 none rm_X7_init G [.ref x0] h none hh := by
  refine Ct.of (plainFor_of_name (by decide)) (Nat.le_of_ble_eq_true rfl) ?_
  intro p e s m args below meth c ls X hH hl
  have hl : lv_has ls 1 [(0, .ref x0)] := hl
  have X : Cx G p s m args meth c cX7_init 1 RX7 "<init>" none := X
  have hx := X.1
  have hb := X.2.1
  unfold f_X7_init at hf
  obtain ⟨H, hHe⟩ : ∃ z, z = s.heap := ⟨_, rfl⟩
  obtain ⟨locs, hLe⟩ : ∃ z, z = ([] : List Loc) := ⟨_, rfl⟩
  rw [← hHe, ← hLe] at hH
  rw [← hHe, ← hLe]
  refine lv_aload_n hx hb dX7_init_0 rfl (lv_at hl 0 rfl) ?_
  refine p_oinit X m_838 m_63 m_64 hl.1 dX7_init_1 (by decide) (Nat.le_of_ble_eq_true rfl) ?_
  refine lv_aload_n hx hb dX7_init_4 rfl (lv_at hl 0 rfl) ?_
  refine lv_iconst (v := 1) hx hb dX7_init_5 (by decide) ?_
  refine p_put X hH fp_RX7_9 rfl rfl hf dX7_init_6 (fun h H locs hH hf => ?_)
  refine lv_aload_n hx hb dX7_init_9 rfl (lv_at hl 0 rfl) ?_
  refine lv_bipush (v := 24) hx hb dX7_init_10 (by decide) ?_
  refine p_newI X hH m_524 (N := 24) (by decide) rfl (by decide) (by decide) (by decide) hf dX7_init_12 (fun q1 h H hH hf => ?_)
  refine W.widen (k := 1) (n := 24) (by decide) (by decide) ?_
  refine p_put X hH fp_RX7_15 rfl rfl hf dX7_init_14 (fun h H locs hH hf => ?_)
  refine lv_aload_n hx hb dX7_init_17 rfl (lv_at hl 0 rfl) ?_
  refine lv_bipush (v := 24) hx hb dX7_init_18 (by decide) ?_
  refine p_newI X hH m_524 (N := 24) (by decide) rfl (by decide) (by decide) (by decide) hf dX7_init_20 (fun q2 h H hH hf => ?_)
  refine W.widen (k := 2) (n := 48) (by decide) (by decide) ?_
  refine p_put X hH fp_RX7_19 rfl rfl hf dX7_init_22 (fun h H locs hH hf => ?_)
  refine lv_aload_n hx hb dX7_init_25 rfl (lv_at hl 0 rfl) ?_
  refine lv_bipush (v := 24) hx hb dX7_init_26 (by decide) ?_
  refine p_newZ X hH m_888 (N := 24) (by decide) rfl (by decide) (by decide) (by decide) hf dX7_init_28 (fun q3 h H hH hf => ?_)
  refine W.widen (k := 3) (n := 72) (by decide) (by decide) ?_
  refine p_put X hH fp_RX7_22 rfl rfl hf dX7_init_30 (fun h H locs hH hf => ?_)
  refine lv_aload_n hx hb dX7_init_33 rfl (lv_at hl 0 rfl) ?_
  refine lv_sipush (v := 160) hx hb dX7_init_34 (by decide) ?_
  refine p_newI X hH m_524 (N := 160) (by decide) rfl (by decide) (by decide) (by decide) hf dX7_init_37 (fun q4 h H hH hf => ?_)
  refine W.widen (k := 4) (n := 232) (by decide) (by decide) ?_
  refine p_put X hH fp_RX7_26 rfl rfl hf dX7_init_39 (fun h H locs hH hf => ?_)
  refine lv_aload_n hx hb dX7_init_42 rfl (lv_at hl 0 rfl) ?_
  refine lv_bipush (v := 72) hx hb dX7_init_43 (by decide) ?_
  refine p_newI X hH m_524 (N := 72) (by decide) rfl (by decide) (by decide) (by decide) hf dX7_init_45 (fun q5 h H hH hf => ?_)
  refine W.widen (k := 5) (n := 304) (by decide) (by decide) ?_
  refine p_put X hH fp_RX7_29 rfl rfl hf dX7_init_47 (fun h H locs hH hf => ?_)
  refine lv_aload_n hx hb dX7_init_50 rfl (lv_at hl 0 rfl) ?_
  refine lv_bipush (v := 40) hx hb dX7_init_51 (by decide) ?_
  refine p_newI X hH m_524 (N := 40) (by decide) rfl (by decide) (by decide) (by decide) hf dX7_init_53 (fun q6 h H hH hf => ?_)
  refine W.widen (k := 6) (n := 344) (by decide) (by decide) ?_
  refine p_put X hH fp_RX7_32 rfl rfl hf dX7_init_55 (fun h H locs hH hf => ?_)
  refine lv_aload_n hx hb dX7_init_58 rfl (lv_at hl 0 rfl) ?_
  refine p_getR X hH fg_RX7_19 hf dX7_init_59 (fun v7 _ hf => ?_)
  refine lv_iconst (v := 0) hx hb dX7_init_62 (by decide) ?_
  refine lv_iconst (v := 5) hx hb dX7_init_63 (by decide) ?_
  refine p_iast X hH hf dX7_init_64 (fun h H locs hH hf => ?_)
  exact p_vret X hH hf (by decide) (by decide) dX7_init_65
set_option maxRecDepth 100000 in
set_option maxHeartbeats 4000000 in
theorem c_X7_become (l : Launch) (G : GE) (x0 : Nat) (x1 : Nat) (h : PH) (rr : Unit) (hh : PH) (hf : f_X7_become G x0 x1 h = some (rr, hh)) : Ct l yX7_become cX7_become 2 none rm_X7_become G [.ref x0, .ref x1] h none hh := by
  refine Ct.of (plainFor_of_name (by decide)) (Nat.le_of_ble_eq_true rfl) ?_
  intro p e s m args below meth c ls X hH hl
  have hl : lv_has ls 2 [(0, .ref x0), (1, .ref x1)] := hl
  have X : Cx G p s m args meth c cX7_become 2 RX7 "become" none := X
  have hx := X.1
  have hb := X.2.1
  unfold f_X7_become at hf
  obtain ⟨H, hHe⟩ : ∃ z, z = s.heap := ⟨_, rfl⟩
  obtain ⟨locs, hLe⟩ : ∃ z, z = ([] : List Loc) := ⟨_, rfl⟩
  rw [← hHe, ← hLe] at hH
  rw [← hHe, ← hLe]
  refine lv_aload_n hx hb dX7_become_0 rfl (lv_at hl 0 rfl) ?_
  refine lv_aload_n hx hb dX7_become_1 rfl (lv_at hl 1 rfl) ?_
  refine p_getI X hH fg_RX7_35 hf dX7_become_2 (fun v1 _ hf => ?_)
  refine p_put X hH fp_RX7_35 rfl rfl hf dX7_become_5 (fun h H locs hH hf => ?_)
  refine lv_aload_n hx hb dX7_become_8 rfl (lv_at hl 0 rfl) ?_
  refine lv_aload_n hx hb dX7_become_9 rfl (lv_at hl 1 rfl) ?_
  refine p_getI X hH fg_RX7_9 hf dX7_become_10 (fun v2 _ hf => ?_)
  refine p_put X hH fp_RX7_9 rfl rfl hf dX7_become_13 (fun h H locs hH hf => ?_)
  refine lv_aload_n hx hb dX7_become_16 rfl (lv_at hl 0 rfl) ?_
  refine lv_aload_n hx hb dX7_become_17 rfl (lv_at hl 1 rfl) ?_
  refine p_getI X hH fg_RX7_38 hf dX7_become_18 (fun v3 _ hf => ?_)
  refine p_put X hH fp_RX7_38 rfl rfl hf dX7_become_21 (fun h H locs hH hf => ?_)
  refine lv_aload_n hx hb dX7_become_24 rfl (lv_at hl 0 rfl) ?_
  refine lv_aload_n hx hb dX7_become_25 rfl (lv_at hl 1 rfl) ?_
  refine p_getI X hH fg_RX7_41 hf dX7_become_26 (fun v4 _ hf => ?_)
  refine p_put X hH fp_RX7_41 rfl rfl hf dX7_become_29 (fun h H locs hH hf => ?_)
  refine lv_aload_n hx hb dX7_become_32 rfl (lv_at hl 0 rfl) ?_
  refine lv_aload_n hx hb dX7_become_33 rfl (lv_at hl 1 rfl) ?_
  refine p_getI X hH fg_RX7_44 hf dX7_become_34 (fun v5 _ hf => ?_)
  refine p_put X hH fp_RX7_44 rfl rfl hf dX7_become_37 (fun h H locs hH hf => ?_)
  refine lv_aload_n hx hb dX7_become_40 rfl (lv_at hl 0 rfl) ?_
  refine lv_aload_n hx hb dX7_become_41 rfl (lv_at hl 1 rfl) ?_
  refine p_getI X hH fg_RX7_47 hf dX7_become_42 (fun v6 _ hf => ?_)
  refine p_put X hH fp_RX7_47 rfl rfl hf dX7_become_45 (fun h H locs hH hf => ?_)
  refine lv_aload_n hx hb dX7_become_48 rfl (lv_at hl 1 rfl) ?_
  refine p_getR X hH fg_RX7_15 hf dX7_become_49 (fun v7 _ hf => ?_)
  refine lv_iconst (v := 0) hx hb dX7_become_52 (by decide) ?_
  refine lv_aload_n hx hb dX7_become_53 rfl (lv_at hl 0 rfl) ?_
  refine p_getR X hH fg_RX7_15 hf dX7_become_54 (fun v8 _ hf => ?_)
  refine lv_iconst (v := 0) hx hb dX7_become_57 (by decide) ?_
  refine lv_bipush (v := 24) hx hb dX7_become_58 (by decide) ?_
  refine p_copy0 X hH m_1088 m_185 m_184 m_41 hl.1 (by decide) (Nat.le_of_ble_eq_true rfl) hf dX7_become_60 (fun h H locs hH hf => ?_)
  refine lv_aload_n hx hb dX7_become_63 rfl (lv_at hl 1 rfl) ?_
  refine p_getR X hH fg_RX7_19 hf dX7_become_64 (fun v9 _ hf => ?_)
  refine lv_iconst (v := 0) hx hb dX7_become_67 (by decide) ?_
  refine lv_aload_n hx hb dX7_become_68 rfl (lv_at hl 0 rfl) ?_
  refine p_getR X hH fg_RX7_19 hf dX7_become_69 (fun v10 _ hf => ?_)
  refine lv_iconst (v := 0) hx hb dX7_become_72 (by decide) ?_
  refine lv_bipush (v := 24) hx hb dX7_become_73 (by decide) ?_
  refine p_copy0 X hH m_1088 m_185 m_184 m_41 hl.1 (by decide) (Nat.le_of_ble_eq_true rfl) hf dX7_become_75 (fun h H locs hH hf => ?_)
  refine lv_aload_n hx hb dX7_become_78 rfl (lv_at hl 1 rfl) ?_
  refine p_getR X hH fg_RX7_22 hf dX7_become_79 (fun v11 _ hf => ?_)
  refine lv_iconst (v := 0) hx hb dX7_become_82 (by decide) ?_
  refine lv_aload_n hx hb dX7_become_83 rfl (lv_at hl 0 rfl) ?_
  refine p_getR X hH fg_RX7_22 hf dX7_become_84 (fun v12 _ hf => ?_)
  refine lv_iconst (v := 0) hx hb dX7_become_87 (by decide) ?_
  refine lv_bipush (v := 24) hx hb dX7_become_88 (by decide) ?_
  refine p_copy2 X hH m_1088 m_185 m_184 m_41 hl.1 (by decide) (Nat.le_of_ble_eq_true rfl) hf dX7_become_90 (fun h H locs hH hf => ?_)
  refine lv_aload_n hx hb dX7_become_93 rfl (lv_at hl 1 rfl) ?_
  refine p_getR X hH fg_RX7_26 hf dX7_become_94 (fun v13 _ hf => ?_)
  refine lv_iconst (v := 0) hx hb dX7_become_97 (by decide) ?_
  refine lv_aload_n hx hb dX7_become_98 rfl (lv_at hl 0 rfl) ?_
  refine p_getR X hH fg_RX7_26 hf dX7_become_99 (fun v14 _ hf => ?_)
  refine lv_iconst (v := 0) hx hb dX7_become_102 (by decide) ?_
  refine lv_aload_n hx hb dX7_become_103 rfl (lv_at hl 0 rfl) ?_
  refine p_getR X hH fg_RX7_26 hf dX7_become_104 (fun v15 _ hf => ?_)
  refine p_alen X hH hf dX7_become_107 (fun v16 _ hf => ?_)
  refine p_copy0 X hH m_1088 m_185 m_184 m_41 hl.1 (by decide) (Nat.le_of_ble_eq_true rfl) hf dX7_become_108 (fun h H locs hH hf => ?_)
  refine lv_aload_n hx hb dX7_become_111 rfl (lv_at hl 1 rfl) ?_
  refine p_getR X hH fg_RX7_29 hf dX7_become_112 (fun v17 _ hf => ?_)
  refine lv_iconst (v := 0) hx hb dX7_become_115 (by decide) ?_
  refine lv_aload_n hx hb dX7_become_116 rfl (lv_at hl 0 rfl) ?_
  refine p_getR X hH fg_RX7_29 hf dX7_become_117 (fun v18 _ hf => ?_)
  refine lv_iconst (v := 0) hx hb dX7_become_120 (by decide) ?_
  refine lv_aload_n hx hb dX7_become_121 rfl (lv_at hl 0 rfl) ?_
  refine p_getR X hH fg_RX7_29 hf dX7_become_122 (fun v19 _ hf => ?_)
  refine p_alen X hH hf dX7_become_125 (fun v20 _ hf => ?_)
  refine p_copy0 X hH m_1088 m_185 m_184 m_41 hl.1 (by decide) (Nat.le_of_ble_eq_true rfl) hf dX7_become_126 (fun h H locs hH hf => ?_)
  refine lv_aload_n hx hb dX7_become_129 rfl (lv_at hl 1 rfl) ?_
  refine p_getR X hH fg_RX7_32 hf dX7_become_130 (fun v21 _ hf => ?_)
  refine lv_iconst (v := 0) hx hb dX7_become_133 (by decide) ?_
  refine lv_aload_n hx hb dX7_become_134 rfl (lv_at hl 0 rfl) ?_
  refine p_getR X hH fg_RX7_32 hf dX7_become_135 (fun v22 _ hf => ?_)
  refine lv_iconst (v := 0) hx hb dX7_become_138 (by decide) ?_
  refine lv_aload_n hx hb dX7_become_139 rfl (lv_at hl 0 rfl) ?_
  refine p_getR X hH fg_RX7_32 hf dX7_become_140 (fun v23 _ hf => ?_)
  refine p_alen X hH hf dX7_become_143 (fun v24 _ hf => ?_)
  refine p_copy0 X hH m_1088 m_185 m_184 m_41 hl.1 (by decide) (Nat.le_of_ble_eq_true rfl) hf dX7_become_144 (fun h H locs hH hf => ?_)
  exact p_vret X hH hf (by decide) (by decide) dX7_become_147
set_option maxRecDepth 100000 in
set_option maxHeartbeats 4000000 in
theorem c_X7_of (l : Launch) (G : GE) (x0 : Nat) (x1 : Int32) (x2 : Int32) (h : PH) (rr : Int32) (hh : PH) (hf : f_X7_of G x0 x1 x2 h = some (rr, hh)) : Ct l yX7_of cX7_of 3 (some .int) rm_X7_of G [.ref x0, .int x1, .int x2] h (some (.int rr)) hh := by
  refine Ct.of (plainFor_of_name (by decide)) (Nat.le_of_ble_eq_true rfl) ?_
  intro p e s m args below meth c ls X hH hl
  have hl : lv_has ls 3 [(0, .ref x0), (1, .int x1), (2, .int x2)] := hl
  have X : Cx G p s m args meth c cX7_of 3 RX7 "of" (some .int) := X
  have hx := X.1
  have hb := X.2.1
  unfold f_X7_of at hf
  obtain ⟨H, hHe⟩ : ∃ z, z = s.heap := ⟨_, rfl⟩
  obtain ⟨locs, hLe⟩ : ∃ z, z = ([] : List Loc) := ⟨_, rfl⟩
  rw [← hHe, ← hLe] at hH
  rw [← hHe, ← hLe]
  refine lv_aload_n hx hb dX7_of_0 rfl (lv_at hl 0 rfl) ?_
  refine p_getR X hH fg_RX7_26 hf dX7_of_1 (fun v1 _ hf => ?_)
  refine lv_bipush (v := 10) hx hb dX7_of_4 (by decide) ?_
  refine lv_iload_n hx hb dX7_of_6 rfl (lv_at hl 1 rfl) ?_
  refine lv_imul hx hb dX7_of_7 ?_
  refine lv_iload_n hx hb dX7_of_8 rfl (lv_at hl 2 rfl) ?_
  refine lv_iadd hx hb dX7_of_9 ?_
  refine p_iald X hH hf dX7_of_10 (fun v2 _ hf => ?_)
  exact p_iret X hH hf (by decide) (by decide) dX7_of_11
set_option maxRecDepth 100000 in
set_option maxHeartbeats 4000000 in
theorem c_X7_set (l : Launch) (G : GE) (x0 : Nat) (x1 : Int32) (x2 : Int32) (x3 : Int32) (h : PH) (rr : Unit) (hh : PH) (hf : f_X7_set G x0 x1 x2 x3 h = some (rr, hh)) : Ct l yX7_set cX7_set 4 none rm_X7_set G [.ref x0, .int x1, .int x2, .int x3] h none hh := by
  refine Ct.of (plainFor_of_name (by decide)) (Nat.le_of_ble_eq_true rfl) ?_
  intro p e s m args below meth c ls X hH hl
  have hl : lv_has ls 4 [(0, .ref x0), (1, .int x1), (2, .int x2), (3, .int x3)] := hl
  have X : Cx G p s m args meth c cX7_set 4 RX7 "set" none := X
  have hx := X.1
  have hb := X.2.1
  unfold f_X7_set at hf
  obtain ⟨H, hHe⟩ : ∃ z, z = s.heap := ⟨_, rfl⟩
  obtain ⟨locs, hLe⟩ : ∃ z, z = ([] : List Loc) := ⟨_, rfl⟩
  rw [← hHe, ← hLe] at hH
  rw [← hHe, ← hLe]
  refine lv_aload_n hx hb dX7_set_0 rfl (lv_at hl 0 rfl) ?_
  refine p_getR X hH fg_RX7_26 hf dX7_set_1 (fun v1 _ hf => ?_)
  refine lv_bipush (v := 10) hx hb dX7_set_4 (by decide) ?_
  refine lv_iload_n hx hb dX7_set_6 rfl (lv_at hl 1 rfl) ?_
  refine lv_imul hx hb dX7_set_7 ?_
  refine lv_iload_n hx hb dX7_set_8 rfl (lv_at hl 2 rfl) ?_
  refine lv_iadd hx hb dX7_set_9 ?_
  refine lv_iload_n hx hb dX7_set_10 rfl (lv_at hl 3 rfl) ?_
  refine p_iast X hH hf dX7_set_11 (fun h H locs hH hf => ?_)
  exact p_vret X hH hf (by decide) (by decide) dX7_set_12
set_option maxRecDepth 100000 in
set_option maxHeartbeats 4000000 in
theorem c_X7_entry (l : Launch) (G : GE) (x0 : Nat) (h : PH) (rr : Int32) (hh : PH) (hf : f_X7_entry G x0 h = some (rr, hh)) : Ct l yX7_entry cX7_entry 1 (some .int) rm_X7_entry G [.ref x0] h (some (.int rr)) hh := by
  refine Ct.of (plainFor_of_name (by decide)) (Nat.le_of_ble_eq_true rfl) ?_
  intro p e s m args below meth c ls X hH hl
  have hl : lv_has ls 1 [(0, .ref x0)] := hl
  have X : Cx G p s m args meth c cX7_entry 1 RX7 "entry" (some .int) := X
  have hx := X.1
  have hb := X.2.1
  unfold f_X7_entry at hf
  obtain ⟨H, hHe⟩ : ∃ z, z = s.heap := ⟨_, rfl⟩
  obtain ⟨locs, hLe⟩ : ∃ z, z = ([] : List Loc) := ⟨_, rfl⟩
  rw [← hHe, ← hLe] at hH
  rw [← hHe, ← hLe]
  refine lv_aload_n hx hb dX7_entry_0 rfl (lv_at hl 0 rfl) ?_
  refine p_getI X hH fg_RX7_35 hf dX7_entry_1 (fun v1 _ hf => ?_)
  refine lv_aload_n hx hb dX7_entry_4 rfl (lv_at hl 0 rfl) ?_
  refine p_getI X hH fg_RX7_9 hf dX7_entry_5 (fun v2 _ hf => ?_)
  refine p_irem X hf dX7_entry_8 (fun hf => ?_)
  exact p_iret X hH hf (by decide) (by decide) dX7_entry_9
set_option maxRecDepth 100000 in
set_option maxHeartbeats 4000000 in
theorem w_X7_lee_b170 {G : GE} {p : Program} (l : Launch) {e : Env} {s : State} {m : MethodId} {args : Array Value} {below : List Frame} {meth : Method} {c : Code} {rr : Int32} {hh : PH} (X : Cx G p s m args meth c cX7_lee 8 RX7 "lee" (some .int)) (k86 : Nat → Int32 → Int32 → Int32 → Int32 → Int32 → PH → Option (Int32 × PH)) (ik86 : ∀ (x0 : Nat) (x1 : Int32) (x3 : Int32) (x4 : Int32) (x5 : Int32) (x6 : Int32) (h : PH) (H : Heap) (locs : List Loc) (ls : Array Slot), Hx G s h H locs → lv_has ls 8 [(0, .ref x0), (1, .int x1), (3, .int x3), (4, .int x4), (5, .int x5), (6, .int x6)] → k86 x0 x1 x3 x4 x5 x6 h = some (rr, hh) → W p l e rm_X7_lee s m args below meth c H locs 0 0 (Fq G (some (.int rr)) hh below args s rm_X7_lee.cells rm_X7_lee.slots) (F0 m 86 ls [])) (k95 : Nat → Int32 → Int32 → Int32 → Int32 → Int32 → Int32 → PH → Option (Int32 × PH)) (ik95 : ∀ (x0 : Nat) (x1 : Int32) (x3 : Int32) (x4 : Int32) (x5 : Int32) (x6 : Int32) (x7 : Int32) (h : PH) (H : Heap) (locs : List Loc) (ls : Array Slot), Hx G s h H locs → lv_has ls 8 [(0, .ref x0), (1, .int x1), (3, .int x3), (4, .int x4), (5, .int x5), (6, .int x6), (7, .int x7)] → k95 x0 x1 x3 x4 x5 x6 x7 h = some (rr, hh) → W p l e rm_X7_lee s m args below meth c H locs 0 0 (Fq G (some (.int rr)) hh below args s rm_X7_lee.cells rm_X7_lee.slots) (F0 m 95 ls [])) (x0 : Nat) (x1 : Int32) (x3 : Int32) (x4 : Int32) (x6 : Int32) (x7 : Int32) (t0 : Int32) (t1 : Int32) (h : PH) (H : Heap) (locs : List Loc) (ls : Array Slot) (hH : Hx G s h H locs) (hl : lv_has ls 8 [(0, .ref x0), (1, .int x1), (3, .int x3), (4, .int x4), (6, .int x6), (7, .int x7)]) (hf : f_X7_lee_b170 G k86 k95 x0 x1 x3 x4 x6 x7 t0 t1 h = some (rr, hh)) : W p l e rm_X7_lee s m args below meth c H locs 0 0 (Fq G (some (.int rr)) hh below args s rm_X7_lee.cells rm_X7_lee.slots) (F0 m 170 ls [.int t1, .int t0]) := by
  have hx := X.1
  have hb := X.2.1
  unfold f_X7_lee_b170 at hf
  refine lv_iadd hx hb dX7_lee_170 ?_
  refine lv_istore (lv' := [(5, .int (t0 + t1)), (0, .ref x0), (1, .int x1), (3, .int x3), (4, .int x4), (6, .int x6), (7, .int x7)]) hx hb dX7_lee_171 hl (by decide) rfl (fun ls hl => ?_)
  refine lv_iinc (v := (x7 + (1 : Int32))) (lv' := [(7, .int (x7 + (1 : Int32))), (5, .int (t0 + t1)), (0, .ref x0), (1, .int x1), (3, .int x3), (4, .int x4), (6, .int x6)]) hx hb dX7_lee_173 hl (k := 6) rfl rfl (by decide) rfl (fun ls hl => ?_)
  refine lv_goto (tgt := 95) hx hb dX7_lee_176 (by decide) ?_
  exact ik95 x0 x1 x3 x4 (t0 + t1) x6 (x7 + (1 : Int32)) h H locs ls hH (lv_sub hl [2, 3, 4, 5, 1, 6, 0] rfl) hf
set_option maxRecDepth 100000 in
set_option maxHeartbeats 4000000 in
theorem w_X7_lee_b169 {G : GE} {p : Program} (l : Launch) {e : Env} {s : State} {m : MethodId} {args : Array Value} {below : List Frame} {meth : Method} {c : Code} {rr : Int32} {hh : PH} (X : Cx G p s m args meth c cX7_lee 8 RX7 "lee" (some .int)) (k86 : Nat → Int32 → Int32 → Int32 → Int32 → Int32 → PH → Option (Int32 × PH)) (ik86 : ∀ (x0 : Nat) (x1 : Int32) (x3 : Int32) (x4 : Int32) (x5 : Int32) (x6 : Int32) (h : PH) (H : Heap) (locs : List Loc) (ls : Array Slot), Hx G s h H locs → lv_has ls 8 [(0, .ref x0), (1, .int x1), (3, .int x3), (4, .int x4), (5, .int x5), (6, .int x6)] → k86 x0 x1 x3 x4 x5 x6 h = some (rr, hh) → W p l e rm_X7_lee s m args below meth c H locs 0 0 (Fq G (some (.int rr)) hh below args s rm_X7_lee.cells rm_X7_lee.slots) (F0 m 86 ls [])) (k95 : Nat → Int32 → Int32 → Int32 → Int32 → Int32 → Int32 → PH → Option (Int32 × PH)) (ik95 : ∀ (x0 : Nat) (x1 : Int32) (x3 : Int32) (x4 : Int32) (x5 : Int32) (x6 : Int32) (x7 : Int32) (h : PH) (H : Heap) (locs : List Loc) (ls : Array Slot), Hx G s h H locs → lv_has ls 8 [(0, .ref x0), (1, .int x1), (3, .int x3), (4, .int x4), (5, .int x5), (6, .int x6), (7, .int x7)] → k95 x0 x1 x3 x4 x5 x6 x7 h = some (rr, hh) → W p l e rm_X7_lee s m args below meth c H locs 0 0 (Fq G (some (.int rr)) hh below args s rm_X7_lee.cells rm_X7_lee.slots) (F0 m 95 ls [])) (x0 : Nat) (x1 : Int32) (x3 : Int32) (x4 : Int32) (x6 : Int32) (x7 : Int32) (t0 : Int32) (h : PH) (H : Heap) (locs : List Loc) (ls : Array Slot) (hH : Hx G s h H locs) (hl : lv_has ls 8 [(0, .ref x0), (1, .int x1), (3, .int x3), (4, .int x4), (6, .int x6), (7, .int x7)]) (hf : f_X7_lee_b169 G k86 k95 x0 x1 x3 x4 x6 x7 t0 h = some (rr, hh)) : W p l e rm_X7_lee s m args below meth c H locs 0 0 (Fq G (some (.int rr)) hh below args s rm_X7_lee.cells rm_X7_lee.slots) (F0 m 169 ls [.int t0]) := by
  have hx := X.1
  have hb := X.2.1
  unfold f_X7_lee_b169 at hf
  refine lv_iconst (v := 0) hx hb dX7_lee_169 (by decide) ?_
  exact w_X7_lee_b170 l X k86 ik86 k95 ik95 x0 x1 x3 x4 x6 x7 t0 (0 : Int32) h H locs ls hH (lv_sub hl [0, 1, 2, 3, 4, 5] rfl) hf
set_option maxRecDepth 100000 in
set_option maxHeartbeats 4000000 in
theorem w_X7_lee_b95 {G : GE} {p : Program} (l : Launch) {e : Env} {s : State} {m : MethodId} {args : Array Value} {below : List Frame} {meth : Method} {c : Code} {rr : Int32} {hh : PH} (X : Cx G p s m args meth c cX7_lee 8 RX7 "lee" (some .int)) (k86 : Nat → Int32 → Int32 → Int32 → Int32 → Int32 → PH → Option (Int32 × PH)) (ik86 : ∀ (x0 : Nat) (x1 : Int32) (x3 : Int32) (x4 : Int32) (x5 : Int32) (x6 : Int32) (h : PH) (H : Heap) (locs : List Loc) (ls : Array Slot), Hx G s h H locs → lv_has ls 8 [(0, .ref x0), (1, .int x1), (3, .int x3), (4, .int x4), (5, .int x5), (6, .int x6)] → k86 x0 x1 x3 x4 x5 x6 h = some (rr, hh) → W p l e rm_X7_lee s m args below meth c H locs 0 0 (Fq G (some (.int rr)) hh below args s rm_X7_lee.cells rm_X7_lee.slots) (F0 m 86 ls [])) : ∀ (n : Nat) (x0 : Nat) (x1 : Int32) (x3 : Int32) (x4 : Int32) (x5 : Int32) (x6 : Int32) (x7 : Int32) (h : PH) (H : Heap) (locs : List Loc) (ls : Array Slot) (hH : Hx G s h H locs) (hl : lv_has ls 8 [(0, .ref x0), (1, .int x1), (3, .int x3), (4, .int x4), (5, .int x5), (6, .int x6), (7, .int x7)]) (hf : f_X7_lee_b95 G k86 n x0 x1 x3 x4 x5 x6 x7 h = some (rr, hh)), W p l e rm_X7_lee s m args below meth c H locs 0 0 (Fq G (some (.int rr)) hh below args s rm_X7_lee.cells rm_X7_lee.slots) (F0 m 95 ls []) := by
  have hx := X.1
  have hb := X.2.1
  intro n
  induction n with
  | zero =>
    intro x0 x1 x3 x4 x5 x6 x7 h H locs ls hH hl hf
    have hf : (none : Option (Int32 × PH)) = some (rr, hh) := hf
    cases hf
  | succ n ih =>
    intro x0 x1 x3 x4 x5 x6 x7 h H locs ls hH hl hf
    have hf : f_X7_lee_b95_body G k86 (f_X7_lee_b95 G k86 n) x0 x1 x3 x4 x5 x6 x7 h = some (rr, hh) := hf
    generalize f_X7_lee_b95 G k86 n = k95 at hf ih
    have ik95 := ih
    unfold f_X7_lee_b95_body at hf
    refine lv_iload hx hb dX7_lee_95 (lv_at hl 6 rfl) ?_
    refine lv_aload_n hx hb dX7_lee_97 rfl (lv_at hl 0 rfl) ?_
    refine p_getI X hH fg_RX7_38 hf dX7_lee_98 (fun v4 _ hf => ?_)
    refine p_icmp_ge X hf dX7_lee_101 (tgt := 179) (by decide) (fun _ hf => ?_) (fun _ hf => ?_)
    · refine lv_iinc (v := (x6 + (1 : Int32))) (lv' := [(6, .int (x6 + (1 : Int32))), (0, .ref x0), (1, .int x1), (3, .int x3), (4, .int x4), (5, .int x5), (7, .int x7)]) hx hb dX7_lee_179 hl (k := 5) rfl rfl (by decide) rfl (fun ls hl => ?_)
      refine lv_goto (tgt := 86) hx hb dX7_lee_182 (by decide) ?_
      exact ik86 x0 x1 x3 x4 x5 (x6 + (1 : Int32)) h H locs ls hH (lv_sub hl [1, 2, 3, 4, 5, 0] rfl) hf
    · refine lv_iload hx hb dX7_lee_104 (lv_at hl 4 rfl) ?_
      refine lv_aload_n hx hb dX7_lee_106 rfl (lv_at hl 0 rfl) ?_
      refine lv_iload hx hb dX7_lee_107 (lv_at hl 6 rfl) ?_
      refine lv_iconst (v := 0) hx hb dX7_lee_109 (by decide) ?_
      refine p_cVI (As := [.int x7, .int (0 : Int32)]) (b := x0) (rest := [.int x5]) (ci := 8) X hH rfl hf (fun _ _ e_ => c_X7_of l G x0 x7 (0 : Int32) h _ _ e_) mv_X7_of lk_RX7_60 (by decide) rfl hl.1 (Nat.le_of_ble_eq_true rfl) dX7_lee_110 (c2 := 0) (s2 := 0) (by decide) (fun v5 h H locs hH hf => ?_)
      refine lv_aload_n hx hb dX7_lee_113 rfl (lv_at hl 0 rfl) ?_
      refine lv_iload_n hx hb dX7_lee_114 rfl (lv_at hl 1 rfl) ?_
      refine lv_iconst (v := 0) hx hb dX7_lee_115 (by decide) ?_
      refine p_cVI (As := [.int x1, .int (0 : Int32)]) (b := x0) (rest := [.int v5, .int x5]) (ci := 8) X hH rfl hf (fun _ _ e_ => c_X7_of l G x0 x1 (0 : Int32) h _ _ e_) mv_X7_of lk_RX7_60 (by decide) rfl hl.1 (Nat.le_of_ble_eq_true rfl) dX7_lee_116 (c2 := 0) (s2 := 0) (by decide) (fun v6 h H locs hH hf => ?_)
      refine lv_iload hx hb dX7_lee_119 (lv_at hl 5 rfl) ?_
      refine lv_iload_n hx hb dX7_lee_121 rfl (lv_at hl 2 rfl) ?_
      refine lv_imul hx hb dX7_lee_122 ?_
      refine lv_iadd hx hb dX7_lee_123 ?_
      refine p_icmp_ne X hf dX7_lee_124 (tgt := 169) (by decide) (fun _ hf => ?_) (fun _ hf => ?_)
      · exact w_X7_lee_b169 l X k86 ik86 k95 ik95 x0 x1 x3 x4 x6 x7 x5 h H locs ls hH (lv_sub hl [0, 1, 2, 3, 5, 6] rfl) hf
      · refine lv_aload_n hx hb dX7_lee_127 rfl (lv_at hl 0 rfl) ?_
        refine lv_iload hx hb dX7_lee_128 (lv_at hl 6 rfl) ?_
        refine lv_iconst (v := 1) hx hb dX7_lee_130 (by decide) ?_
        refine p_cVI (As := [.int x7, .int (1 : Int32)]) (b := x0) (rest := [.int x5]) (ci := 8) X hH rfl hf (fun _ _ e_ => c_X7_of l G x0 x7 (1 : Int32) h _ _ e_) mv_X7_of lk_RX7_60 (by decide) rfl hl.1 (Nat.le_of_ble_eq_true rfl) dX7_lee_131 (c2 := 0) (s2 := 0) (by decide) (fun v7 h H locs hH hf => ?_)
        refine lv_aload_n hx hb dX7_lee_134 rfl (lv_at hl 0 rfl) ?_
        refine lv_iload_n hx hb dX7_lee_135 rfl (lv_at hl 1 rfl) ?_
        refine lv_iconst (v := 1) hx hb dX7_lee_136 (by decide) ?_
        refine p_cVI (As := [.int x1, .int (1 : Int32)]) (b := x0) (rest := [.int v7, .int x5]) (ci := 8) X hH rfl hf (fun _ _ e_ => c_X7_of l G x0 x1 (1 : Int32) h _ _ e_) mv_X7_of lk_RX7_60 (by decide) rfl hl.1 (Nat.le_of_ble_eq_true rfl) dX7_lee_137 (c2 := 0) (s2 := 0) (by decide) (fun v8 h H locs hH hf => ?_)
        refine lv_iload hx hb dX7_lee_140 (lv_at hl 5 rfl) ?_
        refine lv_iload hx hb dX7_lee_142 (lv_at hl 3 rfl) ?_
        refine lv_imul hx hb dX7_lee_144 ?_
        refine lv_iadd hx hb dX7_lee_145 ?_
        refine p_icmp_ne X hf dX7_lee_146 (tgt := 169) (by decide) (fun _ hf => ?_) (fun _ hf => ?_)
        · exact w_X7_lee_b169 l X k86 ik86 k95 ik95 x0 x1 x3 x4 x6 x7 x5 h H locs ls hH (lv_sub hl [0, 1, 2, 3, 5, 6] rfl) hf
        · refine lv_aload_n hx hb dX7_lee_149 rfl (lv_at hl 0 rfl) ?_
          refine lv_iload hx hb dX7_lee_150 (lv_at hl 6 rfl) ?_
          refine lv_iconst (v := 2) hx hb dX7_lee_152 (by decide) ?_
          refine p_cVI (As := [.int x7, .int (2 : Int32)]) (b := x0) (rest := [.int x5]) (ci := 8) X hH rfl hf (fun _ _ e_ => c_X7_of l G x0 x7 (2 : Int32) h _ _ e_) mv_X7_of lk_RX7_60 (by decide) rfl hl.1 (Nat.le_of_ble_eq_true rfl) dX7_lee_153 (c2 := 0) (s2 := 0) (by decide) (fun v9 h H locs hH hf => ?_)
          refine lv_aload_n hx hb dX7_lee_156 rfl (lv_at hl 0 rfl) ?_
          refine lv_iload_n hx hb dX7_lee_157 rfl (lv_at hl 1 rfl) ?_
          refine lv_iconst (v := 2) hx hb dX7_lee_158 (by decide) ?_
          refine p_cVI (As := [.int x1, .int (2 : Int32)]) (b := x0) (rest := [.int v9, .int x5]) (ci := 8) X hH rfl hf (fun _ _ e_ => c_X7_of l G x0 x1 (2 : Int32) h _ _ e_) mv_X7_of lk_RX7_60 (by decide) rfl hl.1 (Nat.le_of_ble_eq_true rfl) dX7_lee_159 (c2 := 0) (s2 := 0) (by decide) (fun v10 h H locs hH hf => ?_)
          refine p_icmp_le X hf dX7_lee_162 (tgt := 169) (by decide) (fun _ hf => ?_) (fun _ hf => ?_)
          · exact w_X7_lee_b169 l X k86 ik86 k95 ik95 x0 x1 x3 x4 x6 x7 x5 h H locs ls hH (lv_sub hl [0, 1, 2, 3, 5, 6] rfl) hf
          · refine lv_iconst (v := 1) hx hb dX7_lee_165 (by decide) ?_
            refine lv_goto (tgt := 170) hx hb dX7_lee_166 (by decide) ?_
            exact w_X7_lee_b170 l X k86 ik86 k95 ik95 x0 x1 x3 x4 x6 x7 x5 (1 : Int32) h H locs ls hH (lv_sub hl [0, 1, 2, 3, 5, 6] rfl) hf
set_option maxRecDepth 100000 in
set_option maxHeartbeats 4000000 in
theorem w_X7_lee_b86 {G : GE} {p : Program} (l : Launch) {e : Env} {s : State} {m : MethodId} {args : Array Value} {below : List Frame} {meth : Method} {c : Code} {rr : Int32} {hh : PH} (X : Cx G p s m args meth c cX7_lee 8 RX7 "lee" (some .int)) : ∀ (n : Nat) (x0 : Nat) (x1 : Int32) (x3 : Int32) (x4 : Int32) (x5 : Int32) (x6 : Int32) (h : PH) (H : Heap) (locs : List Loc) (ls : Array Slot) (hH : Hx G s h H locs) (hl : lv_has ls 8 [(0, .ref x0), (1, .int x1), (3, .int x3), (4, .int x4), (5, .int x5), (6, .int x6)]) (hf : f_X7_lee_b86 G n x0 x1 x3 x4 x5 x6 h = some (rr, hh)), W p l e rm_X7_lee s m args below meth c H locs 0 0 (Fq G (some (.int rr)) hh below args s rm_X7_lee.cells rm_X7_lee.slots) (F0 m 86 ls []) := by
  have hx := X.1
  have hb := X.2.1
  intro n
  induction n with
  | zero =>
    intro x0 x1 x3 x4 x5 x6 h H locs ls hH hl hf
    have hf : (none : Option (Int32 × PH)) = some (rr, hh) := hf
    cases hf
  | succ n ih =>
    intro x0 x1 x3 x4 x5 x6 h H locs ls hH hl hf
    have hf : f_X7_lee_b86_body G (f_X7_lee_b86 G n) x0 x1 x3 x4 x5 x6 h = some (rr, hh) := hf
    generalize f_X7_lee_b86 G n = k86 at hf ih
    have ik86 := ih
    unfold f_X7_lee_b86_body at hf
    refine lv_iload hx hb dX7_lee_86 (lv_at hl 5 rfl) ?_
    refine lv_iconst (v := 4) hx hb dX7_lee_88 (by decide) ?_
    refine p_icmp_ge X hf dX7_lee_89 (tgt := 185) (by decide) (fun _ hf => ?_) (fun _ hf => ?_)
    · refine lv_iload hx hb dX7_lee_185 (lv_at hl 4 rfl) ?_
      exact p_iret X hH hf (by decide) (by decide) dX7_lee_187
    · refine lv_iconst (v := 0) hx hb dX7_lee_92 (by decide) ?_
      refine lv_istore (lv' := [(7, .int (0 : Int32)), (0, .ref x0), (1, .int x1), (3, .int x3), (4, .int x4), (5, .int x5), (6, .int x6)]) hx hb dX7_lee_93 hl (by decide) rfl (fun ls hl => ?_)
      exact w_X7_lee_b95 l X k86 ik86 LF x0 x1 x3 x4 x5 x6 (0 : Int32) h H locs ls hH (lv_sub hl [1, 2, 3, 4, 5, 6, 0] rfl) hf
set_option maxRecDepth 100000 in
set_option maxHeartbeats 4000000 in
theorem w_X7_lee_b78 {G : GE} {p : Program} (l : Launch) {e : Env} {s : State} {m : MethodId} {args : Array Value} {below : List Frame} {meth : Method} {c : Code} {rr : Int32} {hh : PH} (X : Cx G p s m args meth c cX7_lee 8 RX7 "lee" (some .int)) (x0 : Nat) (x1 : Int32) (x3 : Int32) (t0 : Int32) (h : PH) (H : Heap) (locs : List Loc) (ls : Array Slot) (hH : Hx G s h H locs) (hl : lv_has ls 8 [(0, .ref x0), (1, .int x1), (3, .int x3)]) (hf : f_X7_lee_b78 G x0 x1 x3 t0 h = some (rr, hh)) : W p l e rm_X7_lee s m args below meth c H locs 0 0 (Fq G (some (.int rr)) hh below args s rm_X7_lee.cells rm_X7_lee.slots) (F0 m 78 ls [.int t0]) := by
  have hx := X.1
  have hb := X.2.1
  unfold f_X7_lee_b78 at hf
  refine lv_istore (lv' := [(4, .int t0), (0, .ref x0), (1, .int x1), (3, .int x3)]) hx hb dX7_lee_78 hl (by decide) rfl (fun ls hl => ?_)
  refine lv_iconst (v := 0) hx hb dX7_lee_80 (by decide) ?_
  refine lv_istore (lv' := [(5, .int (0 : Int32)), (4, .int t0), (0, .ref x0), (1, .int x1), (3, .int x3)]) hx hb dX7_lee_81 hl (by decide) rfl (fun ls hl => ?_)
  refine lv_iconst (v := 1) hx hb dX7_lee_83 (by decide) ?_
  refine lv_istore (lv' := [(6, .int (1 : Int32)), (5, .int (0 : Int32)), (4, .int t0), (0, .ref x0), (1, .int x1), (3, .int x3)]) hx hb dX7_lee_84 hl (by decide) rfl (fun ls hl => ?_)
  exact w_X7_lee_b86 l X LF x0 x1 x3 t0 (0 : Int32) (1 : Int32) h H locs ls hH (lv_sub hl [3, 4, 5, 2, 1, 0] rfl) hf
set_option maxRecDepth 100000 in
set_option maxHeartbeats 4000000 in
theorem w_X7_lee_b58 {G : GE} {p : Program} (l : Launch) {e : Env} {s : State} {m : MethodId} {args : Array Value} {below : List Frame} {meth : Method} {c : Code} {rr : Int32} {hh : PH} (X : Cx G p s m args meth c cX7_lee 8 RX7 "lee" (some .int)) (x0 : Nat) (x1 : Int32) (x3 : Int32) (h : PH) (H : Heap) (locs : List Loc) (ls : Array Slot) (hH : Hx G s h H locs) (hl : lv_has ls 8 [(0, .ref x0), (1, .int x1), (3, .int x3)]) (hf : f_X7_lee_b58 G x0 x1 x3 h = some (rr, hh)) : W p l e rm_X7_lee s m args below meth c H locs 0 0 (Fq G (some (.int rr)) hh below args s rm_X7_lee.cells rm_X7_lee.slots) (F0 m 58 ls []) := by
  have hx := X.1
  have hb := X.2.1
  unfold f_X7_lee_b58 at hf
  refine lv_iconst (v := 0) hx hb dX7_lee_58 (by decide) ?_
  refine lv_goto (tgt := 78) hx hb dX7_lee_59 (by decide) ?_
  exact w_X7_lee_b78 l X x0 x1 x3 (0 : Int32) h H locs ls hH (lv_sub hl [0, 1, 2] rfl) hf
set_option maxRecDepth 100000 in
set_option maxHeartbeats 4000000 in
theorem w_X7_lee_b77 {G : GE} {p : Program} (l : Launch) {e : Env} {s : State} {m : MethodId} {args : Array Value} {below : List Frame} {meth : Method} {c : Code} {rr : Int32} {hh : PH} (X : Cx G p s m args meth c cX7_lee 8 RX7 "lee" (some .int)) (x0 : Nat) (x1 : Int32) (x3 : Int32) (h : PH) (H : Heap) (locs : List Loc) (ls : Array Slot) (hH : Hx G s h H locs) (hl : lv_has ls 8 [(0, .ref x0), (1, .int x1), (3, .int x3)]) (hf : f_X7_lee_b77 G x0 x1 x3 h = some (rr, hh)) : W p l e rm_X7_lee s m args below meth c H locs 0 0 (Fq G (some (.int rr)) hh below args s rm_X7_lee.cells rm_X7_lee.slots) (F0 m 77 ls []) := by
  have hx := X.1
  have hb := X.2.1
  unfold f_X7_lee_b77 at hf
  refine lv_iconst (v := -1) hx hb dX7_lee_77 (by decide) ?_
  exact w_X7_lee_b78 l X x0 x1 x3 (-1 : Int32) h H locs ls hH (lv_sub hl [0, 1, 2] rfl) hf
set_option maxRecDepth 100000 in
set_option maxHeartbeats 4000000 in
theorem w_X7_lee_b46 {G : GE} {p : Program} (l : Launch) {e : Env} {s : State} {m : MethodId} {args : Array Value} {below : List Frame} {meth : Method} {c : Code} {rr : Int32} {hh : PH} (X : Cx G p s m args meth c cX7_lee 8 RX7 "lee" (some .int)) (x0 : Nat) (x1 : Int32) (x2 : Int32) (t0 : Int32) (h : PH) (H : Heap) (locs : List Loc) (ls : Array Slot) (hH : Hx G s h H locs) (hl : lv_has ls 8 [(0, .ref x0), (1, .int x1), (2, .int x2)]) (hf : f_X7_lee_b46 G x0 x1 x2 t0 h = some (rr, hh)) : W p l e rm_X7_lee s m args below meth c H locs 0 0 (Fq G (some (.int rr)) hh below args s rm_X7_lee.cells rm_X7_lee.slots) (F0 m 46 ls [.int t0]) := by
  have hx := X.1
  have hb := X.2.1
  unfold f_X7_lee_b46 at hf
  refine lv_istore_n (lv' := [(3, .int t0), (0, .ref x0), (1, .int x1), (2, .int x2)]) hx hb dX7_lee_46 rfl hl (by decide) rfl (fun ls hl => ?_)
  refine lv_iload_n hx hb dX7_lee_47 rfl (lv_at hl 3 rfl) ?_
  refine lv_iconst (v := 2) hx hb dX7_lee_48 (by decide) ?_
  refine p_icmp_eq X hf dX7_lee_49 (tgt := 58) (by decide) (fun _ hf => ?_) (fun _ hf => ?_)
  · exact w_X7_lee_b58 l X x0 x1 t0 h H locs ls hH (lv_sub hl [1, 2, 0] rfl) hf
  · refine lv_iload_n hx hb dX7_lee_52 rfl (lv_at hl 3 rfl) ?_
    refine lv_bipush (v := 6) hx hb dX7_lee_53 (by decide) ?_
    refine p_icmp_ne X hf dX7_lee_55 (tgt := 62) (by decide) (fun _ hf => ?_) (fun _ hf => ?_)
    · refine lv_iload_n hx hb dX7_lee_62 rfl (lv_at hl 3 rfl) ?_
      refine lv_iconst (v := 2) hx hb dX7_lee_63 (by decide) ?_
      refine p_icmp_le X hf dX7_lee_64 (tgt := 77) (by decide) (fun _ hf => ?_) (fun _ hf => ?_)
      · exact w_X7_lee_b77 l X x0 x1 t0 h H locs ls hH (lv_sub hl [1, 2, 0] rfl) hf
      · refine lv_iload_n hx hb dX7_lee_67 rfl (lv_at hl 3 rfl) ?_
        refine lv_bipush (v := 6) hx hb dX7_lee_68 (by decide) ?_
        refine p_icmp_ge X hf dX7_lee_70 (tgt := 77) (by decide) (fun _ hf => ?_) (fun _ hf => ?_)
        · exact w_X7_lee_b77 l X x0 x1 t0 h H locs ls hH (lv_sub hl [1, 2, 0] rfl) hf
        · refine lv_iconst (v := 1) hx hb dX7_lee_73 (by decide) ?_
          refine lv_goto (tgt := 78) hx hb dX7_lee_74 (by decide) ?_
          exact w_X7_lee_b78 l X x0 x1 t0 (1 : Int32) h H locs ls hH (lv_sub hl [1, 2, 0] rfl) hf
    · exact w_X7_lee_b58 l X x0 x1 t0 h H locs ls hH (lv_sub hl [1, 2, 0] rfl) hf
set_option maxRecDepth 100000 in
set_option maxHeartbeats 4000000 in
theorem w_X7_lee_b32 {G : GE} {p : Program} (l : Launch) {e : Env} {s : State} {m : MethodId} {args : Array Value} {below : List Frame} {meth : Method} {c : Code} {rr : Int32} {hh : PH} (X : Cx G p s m args meth c cX7_lee 8 RX7 "lee" (some .int)) (x0 : Nat) (x1 : Int32) (x2 : Int32) (h : PH) (H : Heap) (locs : List Loc) (ls : Array Slot) (hH : Hx G s h H locs) (hl : lv_has ls 8 [(0, .ref x0), (1, .int x1), (2, .int x2)]) (hf : f_X7_lee_b32 G x0 x1 x2 h = some (rr, hh)) : W p l e rm_X7_lee s m args below meth c H locs 0 0 (Fq G (some (.int rr)) hh below args s rm_X7_lee.cells rm_X7_lee.slots) (F0 m 32 ls []) := by
  have hx := X.1
  have hb := X.2.1
  unfold f_X7_lee_b32 at hf
  refine lv_iconst (v := 0) hx hb dX7_lee_32 (by decide) ?_
  refine lv_goto (tgt := 46) hx hb dX7_lee_33 (by decide) ?_
  exact w_X7_lee_b46 l X x0 x1 x2 (0 : Int32) h H locs ls hH (lv_sub hl [0, 1, 2] rfl) hf
set_option maxRecDepth 100000 in
set_option maxHeartbeats 4000000 in
theorem c_X7_lee (l : Launch) (G : GE) (x0 : Nat) (x1 : Int32) (h : PH) (rr : Int32) (hh : PH) (hf : f_X7_lee G x0 x1 h = some (rr, hh)) : Ct l yX7_lee cX7_lee 8 (some .int) rm_X7_lee G [.ref x0, .int x1] h (some (.int rr)) hh := by
  refine Ct.of (plainFor_of_name (by decide)) (Nat.le_of_ble_eq_true rfl) ?_
  intro p e s m args below meth c ls X hH hl
  have hl : lv_has ls 8 [(0, .ref x0), (1, .int x1)] := hl
  have X : Cx G p s m args meth c cX7_lee 8 RX7 "lee" (some .int) := X
  have hx := X.1
  have hb := X.2.1
  unfold f_X7_lee at hf
  obtain ⟨H, hHe⟩ : ∃ z, z = s.heap := ⟨_, rfl⟩
  obtain ⟨locs, hLe⟩ : ∃ z, z = ([] : List Loc) := ⟨_, rfl⟩
  rw [← hHe, ← hLe] at hH
  rw [← hHe, ← hLe]
  refine lv_aload_n hx hb dX7_lee_0 rfl (lv_at hl 0 rfl) ?_
  refine p_getR X hH fg_RX7_15 hf dX7_lee_1 (fun v1 _ hf => ?_)
  refine lv_aload_n hx hb dX7_lee_4 rfl (lv_at hl 0 rfl) ?_
  refine p_cVI (As := []) (b := x0) (rest := [.ref v1]) (ci := 8) X hH rfl hf (fun _ _ e_ => c_X7_entry l G x0 h _ _ e_) mv_X7_entry lk_RX7_56 (by decide) rfl hl.1 (Nat.le_of_ble_eq_true rfl) dX7_lee_5 (c2 := 0) (s2 := 0) (by decide) (fun v2 h H locs hH hf => ?_)
  refine p_iald X hH hf dX7_lee_8 (fun v3 _ hf => ?_)
  refine lv_bipush (v := 8) hx hb dX7_lee_9 (by decide) ?_
  refine lv_iadd hx hb dX7_lee_11 ?_
  refine lv_bipush (v := 16) hx hb dX7_lee_12 (by decide) ?_
  refine lv_irem hx hb dX7_lee_14 (by decide) ?_
  refine lv_iconst (v := 1) hx hb dX7_lee_15 (by decide) ?_
  refine lv_iadd hx hb dX7_lee_16 ?_
  refine lv_iconst (v := 2) hx hb dX7_lee_17 (by decide) ?_
  refine lv_idiv hx hb dX7_lee_18 (by decide) ?_
  refine lv_bipush (v := 8) hx hb dX7_lee_19 (by decide) ?_
  refine lv_irem hx hb dX7_lee_21 (by decide) ?_
  refine lv_istore_n (lv' := [(2, .int (((((v3 + (8 : Int32)) - (v3 + (8 : Int32)) / (16 : Int32) * (16 : Int32)) + (1 : Int32)) / (2 : Int32)) - ((((v3 + (8 : Int32)) - (v3 + (8 : Int32)) / (16 : Int32) * (16 : Int32)) + (1 : Int32)) / (2 : Int32)) / (8 : Int32) * (8 : Int32))), (0, .ref x0), (1, .int x1)]) hx hb dX7_lee_22 rfl hl (by decide) rfl (fun ls hl => ?_)
  refine lv_iload_n hx hb dX7_lee_23 rfl (lv_at hl 0 rfl) ?_
  refine p_if_eq X hf dX7_lee_24 (tgt := 32) (by decide) (fun _ hf => ?_) (fun _ hf => ?_)
  · exact w_X7_lee_b32 l X x0 x1 (((((v3 + (8 : Int32)) - (v3 + (8 : Int32)) / (16 : Int32) * (16 : Int32)) + (1 : Int32)) / (2 : Int32)) - ((((v3 + (8 : Int32)) - (v3 + (8 : Int32)) / (16 : Int32) * (16 : Int32)) + (1 : Int32)) / (2 : Int32)) / (8 : Int32) * (8 : Int32)) h H locs ls hH (lv_sub hl [1, 2, 0] rfl) hf
  · refine lv_iload_n hx hb dX7_lee_27 rfl (lv_at hl 0 rfl) ?_
    refine lv_iconst (v := 4) hx hb dX7_lee_28 (by decide) ?_
    refine p_icmp_ne X hf dX7_lee_29 (tgt := 36) (by decide) (fun _ hf => ?_) (fun _ hf => ?_)
    · refine lv_iload_n hx hb dX7_lee_36 rfl (lv_at hl 0 rfl) ?_
      refine lv_iconst (v := 4) hx hb dX7_lee_37 (by decide) ?_
      refine p_icmp_ge X hf dX7_lee_38 (tgt := 45) (by decide) (fun _ hf => ?_) (fun _ hf => ?_)
      · refine lv_iconst (v := -1) hx hb dX7_lee_45 (by decide) ?_
        exact w_X7_lee_b46 l X x0 x1 (((((v3 + (8 : Int32)) - (v3 + (8 : Int32)) / (16 : Int32) * (16 : Int32)) + (1 : Int32)) / (2 : Int32)) - ((((v3 + (8 : Int32)) - (v3 + (8 : Int32)) / (16 : Int32) * (16 : Int32)) + (1 : Int32)) / (2 : Int32)) / (8 : Int32) * (8 : Int32)) (-1 : Int32) h H locs ls hH (lv_sub hl [1, 2, 0] rfl) hf
      · refine lv_iconst (v := 1) hx hb dX7_lee_41 (by decide) ?_
        refine lv_goto (tgt := 46) hx hb dX7_lee_42 (by decide) ?_
        exact w_X7_lee_b46 l X x0 x1 (((((v3 + (8 : Int32)) - (v3 + (8 : Int32)) / (16 : Int32) * (16 : Int32)) + (1 : Int32)) / (2 : Int32)) - ((((v3 + (8 : Int32)) - (v3 + (8 : Int32)) / (16 : Int32) * (16 : Int32)) + (1 : Int32)) / (2 : Int32)) / (8 : Int32) * (8 : Int32)) (1 : Int32) h H locs ls hH (lv_sub hl [1, 2, 0] rfl) hf
    · exact w_X7_lee_b32 l X x0 x1 (((((v3 + (8 : Int32)) - (v3 + (8 : Int32)) / (16 : Int32) * (16 : Int32)) + (1 : Int32)) / (2 : Int32)) - ((((v3 + (8 : Int32)) - (v3 + (8 : Int32)) / (16 : Int32) * (16 : Int32)) + (1 : Int32)) / (2 : Int32)) / (8 : Int32) * (8 : Int32)) h H locs ls hH (lv_sub hl [1, 2, 0] rfl) hf
