/-! ===== walks (printed by program) ===== -/
set_option maxRecDepth 100000 in
set_option maxHeartbeats 4000000 in
theorem c_X8_partyOf (l : Launch) (G : GE) (x0 : Nat) (x1 : Int32) (h : PH) (rr : Int32) (hh : PH) (hf : f_X8_partyOf G x0 x1 h = some (rr, hh)) : Ct l yX8_partyOf cX8_partyOf 2 (some .int) rm_X8_partyOf G [.ref x0, .int x1] h (some (.int rr)) hh := by
  refine Ct.of (plainFor_of_name (by decide)) (Nat.le_of_ble_eq_true rfl) ?_
  intro p e s m args below meth c ls X hH hl
  have hl : lv_has ls 2 [(0, .ref x0), (1, .int x1)] := hl
  have X : Cx G p s m args meth c cX8_partyOf 2 RX8 "partyOf" (some .int) := X
  have hx := X.1
  have hb := X.2.1
  unfold f_X8_partyOf at hf
  obtain ⟨H, hHe⟩ : ∃ z, z = s.heap := ⟨_, rfl⟩
  obtain ⟨locs, hLe⟩ : ∃ z, z = ([] : List Loc) := ⟨_, rfl⟩
  rw [← hHe, ← hLe] at hH
  rw [← hHe, ← hLe]
  refine lv_aload_n hx hb dX8_partyOf_0 rfl (lv_at hl 0 rfl) ?_
  refine p_getR X hH fg_RX8_10 hf dX8_partyOf_1 (fun v1 _ hf => ?_)
  refine lv_iload_n hx hb dX8_partyOf_4 rfl (lv_at hl 1 rfl) ?_
  refine lv_bipush (v := 6) hx hb dX8_partyOf_5 (by decide) ?_
  refine p_cVI (As := [.int x1, .int (6 : Int32)]) (b := v1) (rest := []) (ci := 8) X hH rfl hf (fun _ _ e_ => c_X7_of l G v1 x1 (6 : Int32) h _ _ e_) mv_X7_of lk_RX8_56 (by decide) rfl hl.1 (Nat.le_of_ble_eq_true rfl) dX8_partyOf_7 (c2 := 0) (s2 := 0) (by decide) (fun v2 h H locs hH hf => ?_)
  refine lv_iconst (v := 2) hx hb dX8_partyOf_10 (by decide) ?_
  refine lv_iadd hx hb dX8_partyOf_11 ?_
  refine lv_iconst (v := 4) hx hb dX8_partyOf_12 (by decide) ?_
  refine lv_idiv hx hb dX8_partyOf_13 (by decide) ?_
  refine lv_iconst (v := 4) hx hb dX8_partyOf_14 (by decide) ?_
  refine lv_irem hx hb dX8_partyOf_15 (by decide) ?_
  exact p_iret X hH hf (by decide) (by decide) dX8_partyOf_16
set_option maxRecDepth 100000 in
set_option maxHeartbeats 4000000 in
theorem w_X8_vaneTold_b57 {G : GE} {p : Program} (l : Launch) {e : Env} {s : State} {m : MethodId} {args : Array Value} {below : List Frame} {meth : Method} {c : Code} {rr : Int32} {hh : PH} (X : Cx G p s m args meth c cX8_vaneTold 3 RX8 "vaneTold" (some .int)) (t0 : Int32) (h : PH) (H : Heap) (locs : List Loc) (ls : Array Slot) (hH : Hx G s h H locs) (hl : lv_has ls 3 []) (hf : f_X8_vaneTold_b57 G t0 h = some (rr, hh)) : W p l e rm_X8_vaneTold s m args below meth c H locs 0 0 (Fq G (some (.int rr)) hh below args s rm_X8_vaneTold.cells rm_X8_vaneTold.slots) (F0 m 57 ls [.int t0]) := by
  have hx := X.1
  have hb := X.2.1
  unfold f_X8_vaneTold_b57 at hf
  exact p_iret X hH hf (by decide) (by decide) dX8_vaneTold_57
set_option maxRecDepth 100000 in
set_option maxHeartbeats 4000000 in
theorem c_X8_vaneTold (l : Launch) (G : GE) (x0 : Nat) (x1 : Int32) (x2 : Int32) (h : PH) (rr : Int32) (hh : PH) (hf : f_X8_vaneTold G x0 x1 x2 h = some (rr, hh)) : Ct l yX8_vaneTold cX8_vaneTold 3 (some .int) rm_X8_vaneTold G [.ref x0, .int x1, .int x2] h (some (.int rr)) hh := by
  refine Ct.of (plainFor_of_name (by decide)) (Nat.le_of_ble_eq_true rfl) ?_
  intro p e s m args below meth c ls X hH hl
  have hl : lv_has ls 3 [(0, .ref x0), (1, .int x1), (2, .int x2)] := hl
  have X : Cx G p s m args meth c cX8_vaneTold 3 RX8 "vaneTold" (some .int) := X
  have hx := X.1
  have hb := X.2.1
  unfold f_X8_vaneTold at hf
  obtain ⟨H, hHe⟩ : ∃ z, z = s.heap := ⟨_, rfl⟩
  obtain ⟨locs, hLe⟩ : ∃ z, z = ([] : List Loc) := ⟨_, rfl⟩
  rw [← hHe, ← hLe] at hH
  rw [← hHe, ← hLe]
  refine lv_iload_n hx hb dX8_vaneTold_0 rfl (lv_at hl 2 rfl) ?_
  refine lv_bipush (v := 9) hx hb dX8_vaneTold_1 (by decide) ?_
  refine p_icmp_ge X hf dX8_vaneTold_3 (tgt := 18) (by decide) (fun _ hf => ?_) (fun _ hf => ?_)
  · refine lv_iload_n hx hb dX8_vaneTold_18 rfl (lv_at hl 2 rfl) ?_
    refine lv_bipush (v := 9) hx hb dX8_vaneTold_19 (by decide) ?_
    refine p_icmp_ne X hf dX8_vaneTold_21 (tgt := 32) (by decide) (fun _ hf => ?_) (fun _ hf => ?_)
    · refine lv_iload_n hx hb dX8_vaneTold_32 rfl (lv_at hl 2 rfl) ?_
      refine lv_bipush (v := 10) hx hb dX8_vaneTold_33 (by decide) ?_
      refine p_icmp_ne X hf dX8_vaneTold_35 (tgt := 49) (by decide) (fun _ hf => ?_) (fun _ hf => ?_)
      · refine lv_aload_n hx hb dX8_vaneTold_49 rfl (lv_at hl 0 rfl) ?_
        refine p_getR X hH fg_RX8_10 hf dX8_vaneTold_50 (fun v1 _ hf => ?_)
        refine lv_iload_n hx hb dX8_vaneTold_53 rfl (lv_at hl 1 rfl) ?_
        refine p_cVI (As := [.int x1]) (b := v1) (rest := []) (ci := 8) X hH rfl hf (fun _ _ e_ => c_X7_lee l G v1 x1 h _ _ e_) mv_X7_lee lk_RX8_86 (by decide) rfl hl.1 (Nat.le_of_ble_eq_true rfl) dX8_vaneTold_54 (c2 := 0) (s2 := 0) (by decide) (fun v2 h H locs hH hf => ?_)
        exact w_X8_vaneTold_b57 l X v2 h H locs ls hH (lv_sub hl [] rfl) hf
      · refine lv_aload_n hx hb dX8_vaneTold_38 rfl (lv_at hl 0 rfl) ?_
        refine p_getR X hH fg_RX8_10 hf dX8_vaneTold_39 (fun v3 _ hf => ?_)
        refine lv_iload_n hx hb dX8_vaneTold_42 rfl (lv_at hl 1 rfl) ?_
        refine p_cVI (As := [.int x1]) (b := v3) (rest := []) (ci := 8) X hH rfl hf (fun _ _ e_ => c_X7_windAt l G v3 x1 h _ _ e_) mv_X7_windAt lk_RX8_83 (by decide) rfl hl.1 (Nat.le_of_ble_eq_true rfl) dX8_vaneTold_43 (c2 := 0) (s2 := 0) (by decide) (fun v4 h H locs hH hf => ?_)
        refine lv_goto (tgt := 57) hx hb dX8_vaneTold_46 (by decide) ?_
        exact w_X8_vaneTold_b57 l X v4 h H locs ls hH (lv_sub hl [] rfl) hf
    · refine lv_aload_n hx hb dX8_vaneTold_24 rfl (lv_at hl 0 rfl) ?_
      refine lv_iload_n hx hb dX8_vaneTold_25 rfl (lv_at hl 1 rfl) ?_
      refine p_cVI (As := [.int x1]) (b := x0) (rest := []) (ci := 9) X hH rfl hf (fun _ _ e_ => c_X8_partyOf l G x0 x1 h _ _ e_) mv_X8_partyOf lk_RX8_80 (by decide) rfl hl.1 (Nat.le_of_ble_eq_true rfl) dX8_vaneTold_26 (c2 := 0) (s2 := 0) (by decide) (fun v5 h H locs hH hf => ?_)
      refine lv_goto (tgt := 57) hx hb dX8_vaneTold_29 (by decide) ?_
      exact w_X8_vaneTold_b57 l X v5 h H locs ls hH (lv_sub hl [] rfl) hf
  · refine lv_aload_n hx hb dX8_vaneTold_6 rfl (lv_at hl 0 rfl) ?_
    refine p_getR X hH fg_RX8_10 hf dX8_vaneTold_7 (fun v6 _ hf => ?_)
    refine lv_iload_n hx hb dX8_vaneTold_10 rfl (lv_at hl 1 rfl) ?_
    refine lv_iload_n hx hb dX8_vaneTold_11 rfl (lv_at hl 2 rfl) ?_
    refine p_cVI (As := [.int x1, .int x2]) (b := v6) (rest := []) (ci := 8) X hH rfl hf (fun _ _ e_ => c_X7_of l G v6 x1 x2 h _ _ e_) mv_X7_of lk_RX8_56 (by decide) rfl hl.1 (Nat.le_of_ble_eq_true rfl) dX8_vaneTold_12 (c2 := 0) (s2 := 0) (by decide) (fun v7 h H locs hH hf => ?_)
    refine lv_goto (tgt := 57) hx hb dX8_vaneTold_15 (by decide) ?_
    exact w_X8_vaneTold_b57 l X v7 h H locs ls hH (lv_sub hl [] rfl) hf
set_option maxRecDepth 100000 in
set_option maxHeartbeats 4000000 in
theorem w_X8_vane_b37 {G : GE} {p : Program} (l : Launch) {e : Env} {s : State} {m : MethodId} {args : Array Value} {below : List Frame} {meth : Method} {c : Code} {rr : Int32} {hh : PH} (X : Cx G p s m args meth c cX8_vane 3 RX8 "vane" (some .int)) (t0 : Int32) (h : PH) (H : Heap) (locs : List Loc) (ls : Array Slot) (hH : Hx G s h H locs) (hl : lv_has ls 3 []) (hf : f_X8_vane_b37 G t0 h = some (rr, hh)) : W p l e rm_X8_vane s m args below meth c H locs 0 0 (Fq G (some (.int rr)) hh below args s rm_X8_vane.cells rm_X8_vane.slots) (F0 m 37 ls [.int t0]) := by
  have hx := X.1
  have hb := X.2.1
  unfold f_X8_vane_b37 at hf
  exact p_iret X hH hf (by decide) (by decide) dX8_vane_37
set_option maxRecDepth 100000 in
set_option maxHeartbeats 4000000 in
theorem w_X8_vane_b32 {G : GE} {p : Program} (l : Launch) {e : Env} {s : State} {m : MethodId} {args : Array Value} {below : List Frame} {meth : Method} {c : Code} {rr : Int32} {hh : PH} (X : Cx G p s m args meth c cX8_vane 3 RX8 "vane" (some .int)) (x0 : Nat) (h : PH) (H : Heap) (locs : List Loc) (ls : Array Slot) (hH : Hx G s h H locs) (hl : lv_has ls 3 [(0, .ref x0)]) (hf : f_X8_vane_b32 G x0 h = some (rr, hh)) : W p l e rm_X8_vane s m args below meth c H locs 0 0 (Fq G (some (.int rr)) hh below args s rm_X8_vane.cells rm_X8_vane.slots) (F0 m 32 ls []) := by
  have hx := X.1
  have hb := X.2.1
  unfold f_X8_vane_b32 at hf
  refine lv_aload_n hx hb dX8_vane_32 rfl (lv_at hl 0 rfl) ?_
  refine lv_iconst (v := 1) hx hb dX8_vane_33 (by decide) ?_
  refine p_cVI (As := [.int (1 : Int32)]) (b := x0) (rest := []) (ci := 9) X hH rfl hf (fun _ _ e_ => c_X8_no l G x0 (1 : Int32) h _ _ e_) mv_X8_no lk_RX8_38 (by decide) rfl hl.1 (Nat.le_of_ble_eq_true rfl) dX8_vane_34 (c2 := 0) (s2 := 0) (by decide) (fun v4 h H locs hH hf => ?_)
  exact w_X8_vane_b37 l X v4 h H locs ls hH (lv_sub hl [] rfl) hf
set_option maxRecDepth 100000 in
set_option maxHeartbeats 4000000 in
theorem c_X8_vane (l : Launch) (G : GE) (x0 : Nat) (x1 : Int32) (x2 : Int32) (h : PH) (rr : Int32) (hh : PH) (hf : f_X8_vane G x0 x1 x2 h = some (rr, hh)) : Ct l yX8_vane cX8_vane 3 (some .int) rm_X8_vane G [.ref x0, .int x1, .int x2] h (some (.int rr)) hh := by
  refine Ct.of (plainFor_of_name (by decide)) (Nat.le_of_ble_eq_true rfl) ?_
  intro p e s m args below meth c ls X hH hl
  have hl : lv_has ls 3 [(0, .ref x0), (1, .int x1), (2, .int x2)] := hl
  have X : Cx G p s m args meth c cX8_vane 3 RX8 "vane" (some .int) := X
  have hx := X.1
  have hb := X.2.1
  unfold f_X8_vane at hf
  obtain ⟨H, hHe⟩ : ∃ z, z = s.heap := ⟨_, rfl⟩
  obtain ⟨locs, hLe⟩ : ∃ z, z = ([] : List Loc) := ⟨_, rfl⟩
  rw [← hHe, ← hLe] at hH
  rw [← hHe, ← hLe]
  refine lv_aload_n hx hb dX8_vane_0 rfl (lv_at hl 0 rfl) ?_
  refine lv_iconst (v := 0) hx hb dX8_vane_1 (by decide) ?_
  refine p_put X hH fp_RX8_19 rfl rfl hf dX8_vane_2 (fun h H locs hH hf => ?_)
  refine lv_aload_n hx hb dX8_vane_5 rfl (lv_at hl 0 rfl) ?_
  refine lv_iload_n hx hb dX8_vane_6 rfl (lv_at hl 1 rfl) ?_
  refine p_cVI (As := [.int x1]) (b := x0) (rest := []) (ci := 9) X hH rfl hf (fun _ _ e_ => c_X8_isVane l G x0 x1 h _ _ e_) mv_X8_isVane lk_RX8_68 (by decide) rfl hl.1 (Nat.le_of_ble_eq_true rfl) dX8_vane_7 (c2 := 0) (s2 := 0) (by decide) (fun v1 h H locs hH hf => ?_)
  refine p_if_eq X hf dX8_vane_10 (tgt := 32) (by decide) (fun _ hf => ?_) (fun _ hf => ?_)
  · exact w_X8_vane_b32 l X x0 h H locs ls hH (lv_sub hl [0] rfl) hf
  · refine lv_iload_n hx hb dX8_vane_13 rfl (lv_at hl 2 rfl) ?_
    refine lv_iconst (v := 0) hx hb dX8_vane_14 (by decide) ?_
    refine lv_bipush (v := 11) hx hb dX8_vane_15 (by decide) ?_
    refine p_cSI (As := [.int x2, .int (0 : Int32), .int (11 : Int32)]) (rest := []) X hH hf (fun _ _ e_ => c_X8_isIn l G x2 (0 : Int32) (11 : Int32) h _ _ e_) ms_X8_isIn lk_RX8_34 (by decide) rfl hl.1 (Nat.le_of_ble_eq_true rfl) dX8_vane_17 (c2 := 0) (s2 := 0) (by decide) (fun v2 h H locs hH hf => ?_)
    refine p_if_eq X hf dX8_vane_20 (tgt := 32) (by decide) (fun _ hf => ?_) (fun _ hf => ?_)
    · exact w_X8_vane_b32 l X x0 h H locs ls hH (lv_sub hl [0] rfl) hf
    · refine lv_aload_n hx hb dX8_vane_23 rfl (lv_at hl 0 rfl) ?_
      refine lv_iload_n hx hb dX8_vane_24 rfl (lv_at hl 1 rfl) ?_
      refine lv_iload_n hx hb dX8_vane_25 rfl (lv_at hl 2 rfl) ?_
      refine p_cVI (As := [.int x1, .int x2]) (b := x0) (rest := []) (ci := 9) X hH rfl hf (fun _ _ e_ => c_X8_vaneTold l G x0 x1 x2 h _ _ e_) mv_X8_vaneTold lk_RX8_89 (by decide) rfl hl.1 (Nat.le_of_ble_eq_true rfl) dX8_vane_26 (c2 := 0) (s2 := 0) (by decide) (fun v3 h H locs hH hf => ?_)
      refine lv_goto (tgt := 37) hx hb dX8_vane_29 (by decide) ?_
      exact w_X8_vane_b37 l X v3 h H locs ls hH (lv_sub hl [] rfl) hf
set_option maxRecDepth 100000 in
set_option maxHeartbeats 4000000 in
theorem w_X8_difference_b38 {G : GE} {p : Program} (l : Launch) {e : Env} {s : State} {m : MethodId} {args : Array Value} {below : List Frame} {meth : Method} {c : Code} {rr : Int32} {hh : PH} (X : Cx G p s m args meth c cX8_difference 3 RX8 "difference" (some .int)) (t0 : Int32) (h : PH) (H : Heap) (locs : List Loc) (ls : Array Slot) (hH : Hx G s h H locs) (hl : lv_has ls 3 []) (hf : f_X8_difference_b38 G t0 h = some (rr, hh)) : W p l e rm_X8_difference s m args below meth c H locs 0 0 (Fq G (some (.int rr)) hh below args s rm_X8_difference.cells rm_X8_difference.slots) (F0 m 38 ls [.int t0]) := by
  have hx := X.1
  have hb := X.2.1
  unfold f_X8_difference_b38 at hf
  exact p_iret X hH hf (by decide) (by decide) dX8_difference_38
set_option maxRecDepth 100000 in
set_option maxHeartbeats 4000000 in
theorem w_X8_difference_b33 {G : GE} {p : Program} (l : Launch) {e : Env} {s : State} {m : MethodId} {args : Array Value} {below : List Frame} {meth : Method} {c : Code} {rr : Int32} {hh : PH} (X : Cx G p s m args meth c cX8_difference 3 RX8 "difference" (some .int)) (x0 : Nat) (h : PH) (H : Heap) (locs : List Loc) (ls : Array Slot) (hH : Hx G s h H locs) (hl : lv_has ls 3 [(0, .ref x0)]) (hf : f_X8_difference_b33 G x0 h = some (rr, hh)) : W p l e rm_X8_difference s m args below meth c H locs 0 0 (Fq G (some (.int rr)) hh below args s rm_X8_difference.cells rm_X8_difference.slots) (F0 m 33 ls []) := by
  have hx := X.1
  have hb := X.2.1
  unfold f_X8_difference_b33 at hf
  refine lv_aload_n hx hb dX8_difference_33 rfl (lv_at hl 0 rfl) ?_
  refine lv_iconst (v := 1) hx hb dX8_difference_34 (by decide) ?_
  refine p_cVI (As := [.int (1 : Int32)]) (b := x0) (rest := []) (ci := 9) X hH rfl hf (fun _ _ e_ => c_X8_no l G x0 (1 : Int32) h _ _ e_) mv_X8_no lk_RX8_38 (by decide) rfl hl.1 (Nat.le_of_ble_eq_true rfl) dX8_difference_35 (c2 := 0) (s2 := 0) (by decide) (fun v4 h H locs hH hf => ?_)
  exact w_X8_difference_b38 l X v4 h H locs ls hH (lv_sub hl [] rfl) hf
set_option maxRecDepth 100000 in
set_option maxHeartbeats 4000000 in
theorem c_X8_difference (l : Launch) (G : GE) (x0 : Nat) (x1 : Int32) (x2 : Int32) (h : PH) (rr : Int32) (hh : PH) (hf : f_X8_difference G x0 x1 x2 h = some (rr, hh)) : Ct l yX8_difference cX8_difference 3 (some .int) rm_X8_difference G [.ref x0, .int x1, .int x2] h (some (.int rr)) hh := by
  refine Ct.of (plainFor_of_name (by decide)) (Nat.le_of_ble_eq_true rfl) ?_
  intro p e s m args below meth c ls X hH hl
  have hl : lv_has ls 3 [(0, .ref x0), (1, .int x1), (2, .int x2)] := hl
  have X : Cx G p s m args meth c cX8_difference 3 RX8 "difference" (some .int) := X
  have hx := X.1
  have hb := X.2.1
  unfold f_X8_difference at hf
  obtain ⟨H, hHe⟩ : ∃ z, z = s.heap := ⟨_, rfl⟩
  obtain ⟨locs, hLe⟩ : ∃ z, z = ([] : List Loc) := ⟨_, rfl⟩
  rw [← hHe, ← hLe] at hH
  rw [← hHe, ← hLe]
  refine lv_aload_n hx hb dX8_difference_0 rfl (lv_at hl 0 rfl) ?_
  refine lv_iconst (v := 0) hx hb dX8_difference_1 (by decide) ?_
  refine p_put X hH fp_RX8_19 rfl rfl hf dX8_difference_2 (fun h H locs hH hf => ?_)
  refine lv_iload_n hx hb dX8_difference_5 rfl (lv_at hl 1 rfl) ?_
  refine lv_iconst (v := 0) hx hb dX8_difference_6 (by decide) ?_
  refine lv_bipush (v := 15) hx hb dX8_difference_7 (by decide) ?_
  refine p_cSI (As := [.int x1, .int (0 : Int32), .int (15 : Int32)]) (rest := []) X hH hf (fun _ _ e_ => c_X8_isIn l G x1 (0 : Int32) (15 : Int32) h _ _ e_) ms_X8_isIn lk_RX8_34 (by decide) rfl hl.1 (Nat.le_of_ble_eq_true rfl) dX8_difference_9 (c2 := 0) (s2 := 0) (by decide) (fun v1 h H locs hH hf => ?_)
  refine p_if_eq X hf dX8_difference_12 (tgt := 33) (by decide) (fun _ hf => ?_) (fun _ hf => ?_)
  · exact w_X8_difference_b33 l X x0 h H locs ls hH (lv_sub hl [0] rfl) hf
  · refine lv_iload_n hx hb dX8_difference_15 rfl (lv_at hl 2 rfl) ?_
    refine lv_iconst (v := 0) hx hb dX8_difference_16 (by decide) ?_
    refine lv_bipush (v := 15) hx hb dX8_difference_17 (by decide) ?_
    refine p_cSI (As := [.int x2, .int (0 : Int32), .int (15 : Int32)]) (rest := []) X hH hf (fun _ _ e_ => c_X8_isIn l G x2 (0 : Int32) (15 : Int32) h _ _ e_) ms_X8_isIn lk_RX8_34 (by decide) rfl hl.1 (Nat.le_of_ble_eq_true rfl) dX8_difference_19 (c2 := 0) (s2 := 0) (by decide) (fun v2 h H locs hH hf => ?_)
    refine p_if_eq X hf dX8_difference_22 (tgt := 33) (by decide) (fun _ hf => ?_) (fun _ hf => ?_)
    · exact w_X8_difference_b33 l X x0 h H locs ls hH (lv_sub hl [0] rfl) hf
    · refine lv_iload_n hx hb dX8_difference_25 rfl (lv_at hl 1 rfl) ?_
      refine lv_iload_n hx hb dX8_difference_26 rfl (lv_at hl 2 rfl) ?_
      refine p_cSI (As := [.int x1, .int x2]) (rest := []) X hH hf (fun _ _ e_ => c_X8_apart l G x1 x2 h _ _ e_) ms_X8_apart lk_RX8_92 (by decide) rfl hl.1 (Nat.le_of_ble_eq_true rfl) dX8_difference_27 (c2 := 0) (s2 := 0) (by decide) (fun v3 h H locs hH hf => ?_)
      refine lv_goto (tgt := 38) hx hb dX8_difference_30 (by decide) ?_
      exact w_X8_difference_b38 l X v3 h H locs ls hH (lv_sub hl [] rfl) hf
set_option maxRecDepth 100000 in
set_option maxHeartbeats 4000000 in
theorem w_X8_move_b45 {G : GE} {p : Program} (l : Launch) {e : Env} {s : State} {m : MethodId} {args : Array Value} {below : List Frame} {meth : Method} {c : Code} {rr : Int32} {hh : PH} (X : Cx G p s m args meth c cX8_move 6 RX8 "move" (some .int)) (x0 : Nat) (h : PH) (H : Heap) (locs : List Loc) (ls : Array Slot) (hH : Hx G s h H locs) (hl : lv_has ls 6 [(0, .ref x0)]) (hf : f_X8_move_b45 G x0 h = some (rr, hh)) : W p l e rm_X8_move s m args below meth c H locs 0 0 (Fq G (some (.int rr)) hh below args s rm_X8_move.cells rm_X8_move.slots) (F0 m 45 ls []) := by
  have hx := X.1
  have hb := X.2.1
  unfold f_X8_move_b45 at hf
  refine lv_aload_n hx hb dX8_move_45 rfl (lv_at hl 0 rfl) ?_
  refine lv_iconst (v := 1) hx hb dX8_move_46 (by decide) ?_
  refine p_cVI (As := [.int (1 : Int32)]) (b := x0) (rest := []) (ci := 9) X hH rfl hf (fun _ _ e_ => c_X8_no l G x0 (1 : Int32) h _ _ e_) mv_X8_no lk_RX8_38 (by decide) rfl hl.1 (Nat.le_of_ble_eq_true rfl) dX8_move_47 (c2 := 0) (s2 := 0) (by decide) (fun v17 h H locs hH hf => ?_)
  exact p_iret X hH hf (by decide) (by decide) dX8_move_50
set_option maxRecDepth 100000 in
set_option maxHeartbeats 4000000 in
theorem c_X8_move (l : Launch) (G : GE) (x0 : Nat) (x1 : Int32) (x2 : Int32) (x3 : Int32) (x4 : Int32) (h : PH) (rr : Int32) (hh : PH) (hf : f_X8_move G x0 x1 x2 x3 x4 h = some (rr, hh)) : Ct l yX8_move cX8_move 6 (some .int) rm_X8_move G [.ref x0, .int x1, .int x2, .int x3, .int x4] h (some (.int rr)) hh := by
  refine Ct.of (plainFor_of_name (by decide)) (Nat.le_of_ble_eq_true rfl) ?_
  intro p e s m args below meth c ls X hH hl
  have hl : lv_has ls 6 [(0, .ref x0), (1, .int x1), (2, .int x2), (3, .int x3), (4, .int x4)] := hl
  have X : Cx G p s m args meth c cX8_move 6 RX8 "move" (some .int) := X
  have hx := X.1
  have hb := X.2.1
  unfold f_X8_move at hf
  obtain ⟨H, hHe⟩ : ∃ z, z = s.heap := ⟨_, rfl⟩
  obtain ⟨locs, hLe⟩ : ∃ z, z = ([] : List Loc) := ⟨_, rfl⟩
  rw [← hHe, ← hLe] at hH
  rw [← hHe, ← hLe]
  refine lv_aload_n hx hb dX8_move_0 rfl (lv_at hl 0 rfl) ?_
  refine lv_iconst (v := 0) hx hb dX8_move_1 (by decide) ?_
  refine p_put X hH fp_RX8_19 rfl rfl hf dX8_move_2 (fun h H locs hH hf => ?_)
  refine lv_iload_n hx hb dX8_move_5 rfl (lv_at hl 1 rfl) ?_
  refine lv_iconst (v := 0) hx hb dX8_move_6 (by decide) ?_
  refine lv_bipush (v := 15) hx hb dX8_move_7 (by decide) ?_
  refine p_cSI (As := [.int x1, .int (0 : Int32), .int (15 : Int32)]) (rest := []) X hH hf (fun _ _ e_ => c_X8_isIn l G x1 (0 : Int32) (15 : Int32) h _ _ e_) ms_X8_isIn lk_RX8_34 (by decide) rfl hl.1 (Nat.le_of_ble_eq_true rfl) dX8_move_9 (c2 := 0) (s2 := 0) (by decide) (fun v1 h H locs hH hf => ?_)
  refine p_if_eq X hf dX8_move_12 (tgt := 45) (by decide) (fun _ hf => ?_) (fun _ hf => ?_)
  · exact w_X8_move_b45 l X x0 h H locs ls hH (lv_sub hl [0] rfl) hf
  · refine lv_iload_n hx hb dX8_move_15 rfl (lv_at hl 2 rfl) ?_
    refine lv_iconst (v := 0) hx hb dX8_move_16 (by decide) ?_
    refine lv_bipush (v := 7) hx hb dX8_move_17 (by decide) ?_
    refine p_cSI (As := [.int x2, .int (0 : Int32), .int (7 : Int32)]) (rest := []) X hH hf (fun _ _ e_ => c_X8_isIn l G x2 (0 : Int32) (7 : Int32) h _ _ e_) ms_X8_isIn lk_RX8_34 (by decide) rfl hl.1 (Nat.le_of_ble_eq_true rfl) dX8_move_19 (c2 := 0) (s2 := 0) (by decide) (fun v2 h H locs hH hf => ?_)
    refine p_if_eq X hf dX8_move_22 (tgt := 45) (by decide) (fun _ hf => ?_) (fun _ hf => ?_)
    · exact w_X8_move_b45 l X x0 h H locs ls hH (lv_sub hl [0] rfl) hf
    · refine lv_iload_n hx hb dX8_move_25 rfl (lv_at hl 3 rfl) ?_
      refine lv_iconst (v := 0) hx hb dX8_move_26 (by decide) ?_
      refine lv_bipush (v := 99) hx hb dX8_move_27 (by decide) ?_
      refine p_cSI (As := [.int x3, .int (0 : Int32), .int (99 : Int32)]) (rest := []) X hH hf (fun _ _ e_ => c_X8_isIn l G x3 (0 : Int32) (99 : Int32) h _ _ e_) ms_X8_isIn lk_RX8_34 (by decide) rfl hl.1 (Nat.le_of_ble_eq_true rfl) dX8_move_29 (c2 := 0) (s2 := 0) (by decide) (fun v3 h H locs hH hf => ?_)
      refine p_if_eq X hf dX8_move_32 (tgt := 45) (by decide) (fun _ hf => ?_) (fun _ hf => ?_)
      · exact w_X8_move_b45 l X x0 h H locs ls hH (lv_sub hl [0] rfl) hf
      · refine lv_iload hx hb dX8_move_35 (lv_at hl 4 rfl) ?_
        refine lv_iconst (v := 0) hx hb dX8_move_37 (by decide) ?_
        refine lv_iconst (v := 3) hx hb dX8_move_38 (by decide) ?_
        refine p_cSI (As := [.int x4, .int (0 : Int32), .int (3 : Int32)]) (rest := []) X hH hf (fun _ _ e_ => c_X8_isIn l G x4 (0 : Int32) (3 : Int32) h _ _ e_) ms_X8_isIn lk_RX8_34 (by decide) rfl hl.1 (Nat.le_of_ble_eq_true rfl) dX8_move_39 (c2 := 0) (s2 := 0) (by decide) (fun v4 h H locs hH hf => ?_)
        refine p_if_ne X hf dX8_move_42 (tgt := 51) (by decide) (fun _ hf => ?_) (fun _ hf => ?_)
        · refine lv_aload_n hx hb dX8_move_51 rfl (lv_at hl 0 rfl) ?_
          refine p_getR X hH fg_RX8_10 hf dX8_move_52 (fun v5 _ hf => ?_)
          refine p_getI X hH fg_RX8_95 hf dX8_move_55 (fun v6 _ hf => ?_)
          refine lv_bipush (v := 12) hx hb dX8_move_58 (by decide) ?_
          refine p_icmp_ne X hf dX8_move_60 (tgt := 69) (by decide) (fun _ hf => ?_) (fun _ hf => ?_)
          · refine lv_bipush (v := 6) hx hb dX8_move_69 (by decide) ?_
            refine p_newI X hH m_524 (N := 6) (by decide) rfl (by decide) (by decide) (by decide) hf dX8_move_71 (fun q7 h H hH hf => ?_)
            refine W.widen (k := 1) (n := 6) (by decide) (by decide) ?_
            refine lv_dup hx hb dX8_move_73 rfl ?_
            refine lv_iconst (v := 0) hx hb dX8_move_74 (by decide) ?_
            refine lv_iload_n hx hb dX8_move_75 rfl (lv_at hl 1 rfl) ?_
            refine p_iast X hH hf dX8_move_76 (fun h H locs hH hf => ?_)
            refine lv_dup hx hb dX8_move_77 rfl ?_
            refine lv_iconst (v := 1) hx hb dX8_move_78 (by decide) ?_
            refine lv_iload_n hx hb dX8_move_79 rfl (lv_at hl 2 rfl) ?_
            refine p_iast X hH hf dX8_move_80 (fun h H locs hH hf => ?_)
            refine lv_dup hx hb dX8_move_81 rfl ?_
            refine lv_iconst (v := 2) hx hb dX8_move_82 (by decide) ?_
            refine lv_iload_n hx hb dX8_move_83 rfl (lv_at hl 3 rfl) ?_
            refine p_iast X hH hf dX8_move_84 (fun h H locs hH hf => ?_)
            refine lv_dup hx hb dX8_move_85 rfl ?_
            refine lv_iconst (v := 3) hx hb dX8_move_86 (by decide) ?_
            refine lv_iload hx hb dX8_move_87 (lv_at hl 4 rfl) ?_
            refine p_iast X hH hf dX8_move_89 (fun h H locs hH hf => ?_)
            refine lv_dup hx hb dX8_move_90 rfl ?_
            refine lv_iconst (v := 4) hx hb dX8_move_91 (by decide) ?_
            refine lv_iconst (v := 0) hx hb dX8_move_92 (by decide) ?_
            refine p_iast X hH hf dX8_move_93 (fun h H locs hH hf => ?_)
            refine lv_dup hx hb dX8_move_94 rfl ?_
            refine lv_iconst (v := 5) hx hb dX8_move_95 (by decide) ?_
            refine lv_iconst (v := 0) hx hb dX8_move_96 (by decide) ?_
            refine p_iast X hH hf dX8_move_97 (fun h H locs hH hf => ?_)
            refine lv_astore (lv' := [(5, .ref q7), (0, .ref x0), (1, .int x1), (2, .int x2), (3, .int x3), (4, .int x4)]) hx hb dX8_move_98 hl (by decide) rfl (fun ls hl => ?_)
            refine lv_aload hx hb dX8_move_100 (lv_at hl 0 rfl) ?_
            refine lv_iconst (v := 0) hx hb dX8_move_102 (by decide) ?_
            refine lv_aload_n hx hb dX8_move_103 rfl (lv_at hl 1 rfl) ?_
            refine p_getR X hH fg_RX8_10 hf dX8_move_104 (fun v8 _ hf => ?_)
            refine p_getR X hH fg_RX8_98 hf dX8_move_107 (fun v9 _ hf => ?_)
            refine lv_bipush (v := 6) hx hb dX8_move_110 (by decide) ?_
            refine lv_aload_n hx hb dX8_move_112 rfl (lv_at hl 1 rfl) ?_
            refine p_getR X hH fg_RX8_10 hf dX8_move_113 (fun v10 _ hf => ?_)
            refine p_getI X hH fg_RX8_95 hf dX8_move_116 (fun v11 _ hf => ?_)
            refine lv_imul hx hb dX8_move_119 ?_
            refine lv_bipush (v := 6) hx hb dX8_move_120 (by decide) ?_
            refine p_copy0 X hH m_938 m_185 m_184 m_41 hl.1 (by decide) (Nat.le_of_ble_eq_true rfl) hf dX8_move_122 (fun h H locs hH hf => ?_)
            refine lv_aload_n hx hb dX8_move_125 rfl (lv_at hl 1 rfl) ?_
            refine p_getR X hH fg_RX8_10 hf dX8_move_126 (fun v12 _ hf => ?_)
            refine lv_dup hx hb dX8_move_129 rfl ?_
            refine p_getI X hH fg_RX8_95 hf dX8_move_130 (fun v13 _ hf => ?_)
            refine lv_iconst (v := 1) hx hb dX8_move_133 (by decide) ?_
            refine lv_iadd hx hb dX8_move_134 ?_
            refine p_put X hH fp_RX8_95 rfl rfl hf dX8_move_135 (fun h H locs hH hf => ?_)
            refine lv_aload_n hx hb dX8_move_138 rfl (lv_at hl 1 rfl) ?_
            refine p_getR X hH fg_RX8_10 hf dX8_move_139 (fun v14 _ hf => ?_)
            refine p_getI X hH fg_RX8_95 hf dX8_move_142 (fun v15 _ hf => ?_)
            refine lv_iconst (v := 1) hx hb dX8_move_145 (by decide) ?_
            refine lv_isub hx hb dX8_move_146 ?_
            exact p_iret X hH hf (by decide) (by decide) dX8_move_147
          · refine lv_aload_n hx hb dX8_move_63 rfl (lv_at hl 0 rfl) ?_
            refine lv_iconst (v := 2) hx hb dX8_move_64 (by decide) ?_
            refine p_cVI (As := [.int (2 : Int32)]) (b := x0) (rest := []) (ci := 9) X hH rfl hf (fun _ _ e_ => c_X8_no l G x0 (2 : Int32) h _ _ e_) mv_X8_no lk_RX8_38 (by decide) rfl hl.1 (Nat.le_of_ble_eq_true rfl) dX8_move_65 (c2 := 0) (s2 := 0) (by decide) (fun v16 h H locs hH hf => ?_)
            exact p_iret X hH hf (by decide) (by decide) dX8_move_68
        · exact w_X8_move_b45 l X x0 h H locs ls hH (lv_sub hl [0] rfl) hf
set_option maxRecDepth 100000 in
set_option maxHeartbeats 4000000 in
theorem c_X8_isMotion (l : Launch) (G : GE) (x0 : Nat) (x1 : Int32) (h : PH) (rr : Int32) (hh : PH) (hf : f_X8_isMotion G x0 x1 h = some (rr, hh)) : Ct l yX8_isMotion cX8_isMotion 2 (some .boolean) rm_X8_isMotion G [.ref x0, .int x1] h (some (.int rr)) hh := by
  refine Ct.of (plainFor_of_name (by decide)) (Nat.le_of_ble_eq_true rfl) ?_
  intro p e s m args below meth c ls X hH hl
  have hl : lv_has ls 2 [(0, .ref x0), (1, .int x1)] := hl
  have X : Cx G p s m args meth c cX8_isMotion 2 RX8 "isMotion" (some .boolean) := X
  have hx := X.1
  have hb := X.2.1
  unfold f_X8_isMotion at hf
  obtain ⟨H, hHe⟩ : ∃ z, z = s.heap := ⟨_, rfl⟩
  obtain ⟨locs, hLe⟩ : ∃ z, z = ([] : List Loc) := ⟨_, rfl⟩
  rw [← hHe, ← hLe] at hH
  rw [← hHe, ← hLe]
  refine lv_iload_n hx hb dX8_isMotion_0 rfl (lv_at hl 1 rfl) ?_
  refine lv_iconst (v := 0) hx hb dX8_isMotion_1 (by decide) ?_
  refine lv_aload_n hx hb dX8_isMotion_2 rfl (lv_at hl 0 rfl) ?_
  refine p_getR X hH fg_RX8_10 hf dX8_isMotion_3 (fun v1 _ hf => ?_)
  refine p_getI X hH fg_RX8_95 hf dX8_isMotion_6 (fun v2 _ hf => ?_)
  refine lv_iconst (v := 1) hx hb dX8_isMotion_9 (by decide) ?_
  refine lv_isub hx hb dX8_isMotion_10 ?_
  refine p_cSI (As := [.int x1, .int (0 : Int32), .int (v2 - (1 : Int32))]) (rest := []) X hH hf (fun _ _ e_ => c_X8_isIn l G x1 (0 : Int32) (v2 - (1 : Int32)) h _ _ e_) ms_X8_isIn lk_RX8_34 (by decide) rfl hl.1 (Nat.le_of_ble_eq_true rfl) dX8_isMotion_11 (c2 := 0) (s2 := 0) (by decide) (fun v3 h H locs hH hf => ?_)
  exact p_zret X hH hf (by decide) (by decide) dX8_isMotion_14
set_option maxRecDepth 100000 in
set_option maxHeartbeats 4000000 in
theorem c_X8_put (l : Launch) (G : GE) (x0 : Nat) (x1 : Int32) (x2 : Int32) (h : PH) (rr : Int32) (hh : PH) (hf : f_X8_put G x0 x1 x2 h = some (rr, hh)) : Ct l yX8_put cX8_put 3 (some .int) rm_X8_put G [.ref x0, .int x1, .int x2] h (some (.int rr)) hh := by
  refine Ct.of (plainFor_of_name (by decide)) (Nat.le_of_ble_eq_true rfl) ?_
  intro p e s m args below meth c ls X hH hl
  have hl : lv_has ls 3 [(0, .ref x0), (1, .int x1), (2, .int x2)] := hl
  have X : Cx G p s m args meth c cX8_put 3 RX8 "put" (some .int) := X
  have hx := X.1
  have hb := X.2.1
  unfold f_X8_put at hf
  obtain ⟨H, hHe⟩ : ∃ z, z = s.heap := ⟨_, rfl⟩
  obtain ⟨locs, hLe⟩ : ∃ z, z = ([] : List Loc) := ⟨_, rfl⟩
  rw [← hHe, ← hLe] at hH
  rw [← hHe, ← hLe]
  refine lv_aload_n hx hb dX8_put_0 rfl (lv_at hl 0 rfl) ?_
  refine lv_iconst (v := 0) hx hb dX8_put_1 (by decide) ?_
  refine p_put X hH fp_RX8_19 rfl rfl hf dX8_put_2 (fun h H locs hH hf => ?_)
  refine lv_aload_n hx hb dX8_put_5 rfl (lv_at hl 0 rfl) ?_
  refine lv_iload_n hx hb dX8_put_6 rfl (lv_at hl 1 rfl) ?_
  refine p_cVI (As := [.int x1]) (b := x0) (rest := []) (ci := 9) X hH rfl hf (fun _ _ e_ => c_X8_isMotion l G x0 x1 h _ _ e_) mv_X8_isMotion lk_RX8_101 (by decide) rfl hl.1 (Nat.le_of_ble_eq_true rfl) dX8_put_7 (c2 := 0) (s2 := 0) (by decide) (fun v1 h H locs hH hf => ?_)
  refine p_if_ne X hf dX8_put_10 (tgt := 19) (by decide) (fun _ hf => ?_) (fun _ hf => ?_)
  · refine lv_iload_n hx hb dX8_put_19 rfl (lv_at hl 2 rfl) ?_
    refine lv_aload_n hx hb dX8_put_20 rfl (lv_at hl 0 rfl) ?_
    refine p_getR X hH fg_RX8_10 hf dX8_put_21 (fun v2 _ hf => ?_)
    refine p_getI X hH fg_RX8_104 hf dX8_put_24 (fun v3 _ hf => ?_)
    refine lv_sipush (v := 2000) hx hb dX8_put_27 (by decide) ?_
    refine p_cSI (As := [.int x2, .int v3, .int (2000 : Int32)]) (rest := []) X hH hf (fun _ _ e_ => c_X8_isIn l G x2 v3 (2000 : Int32) h _ _ e_) ms_X8_isIn lk_RX8_34 (by decide) rfl hl.1 (Nat.le_of_ble_eq_true rfl) dX8_put_30 (c2 := 0) (s2 := 0) (by decide) (fun v4 h H locs hH hf => ?_)
    refine p_if_ne X hf dX8_put_33 (tgt := 42) (by decide) (fun _ hf => ?_) (fun _ hf => ?_)
    · refine lv_aload_n hx hb dX8_put_42 rfl (lv_at hl 0 rfl) ?_
      refine p_getR X hH fg_RX8_10 hf dX8_put_43 (fun v5 _ hf => ?_)
      refine p_getI X hH fg_RX8_107 hf dX8_put_46 (fun v6 _ hf => ?_)
      refine lv_bipush (v := 20) hx hb dX8_put_49 (by decide) ?_
      refine p_icmp_ne X hf dX8_put_51 (tgt := 60) (by decide) (fun _ hf => ?_) (fun _ hf => ?_)
      · refine lv_aload_n hx hb dX8_put_60 rfl (lv_at hl 0 rfl) ?_
        refine p_getR X hH fg_RX8_10 hf dX8_put_61 (fun v7 _ hf => ?_)
        refine p_getR X hH fg_RX8_110 hf dX8_put_64 (fun v8 _ hf => ?_)
        refine lv_iconst (v := 2) hx hb dX8_put_67 (by decide) ?_
        refine lv_aload_n hx hb dX8_put_68 rfl (lv_at hl 0 rfl) ?_
        refine p_getR X hH fg_RX8_10 hf dX8_put_69 (fun v9 _ hf => ?_)
        refine p_getI X hH fg_RX8_107 hf dX8_put_72 (fun v10 _ hf => ?_)
        refine lv_imul hx hb dX8_put_75 ?_
        refine lv_iload_n hx hb dX8_put_76 rfl (lv_at hl 1 rfl) ?_
        refine p_iast X hH hf dX8_put_77 (fun h H locs hH hf => ?_)
        refine lv_aload_n hx hb dX8_put_78 rfl (lv_at hl 0 rfl) ?_
        refine p_getR X hH fg_RX8_10 hf dX8_put_79 (fun v11 _ hf => ?_)
        refine p_getR X hH fg_RX8_110 hf dX8_put_82 (fun v12 _ hf => ?_)
        refine lv_iconst (v := 2) hx hb dX8_put_85 (by decide) ?_
        refine lv_aload_n hx hb dX8_put_86 rfl (lv_at hl 0 rfl) ?_
        refine p_getR X hH fg_RX8_10 hf dX8_put_87 (fun v13 _ hf => ?_)
        refine p_getI X hH fg_RX8_107 hf dX8_put_90 (fun v14 _ hf => ?_)
        refine lv_imul hx hb dX8_put_93 ?_
        refine lv_iconst (v := 1) hx hb dX8_put_94 (by decide) ?_
        refine lv_iadd hx hb dX8_put_95 ?_
        refine lv_iload_n hx hb dX8_put_96 rfl (lv_at hl 2 rfl) ?_
        refine p_iast X hH hf dX8_put_97 (fun h H locs hH hf => ?_)
        refine lv_aload_n hx hb dX8_put_98 rfl (lv_at hl 0 rfl) ?_
        refine p_getR X hH fg_RX8_10 hf dX8_put_99 (fun v15 _ hf => ?_)
        refine lv_dup hx hb dX8_put_102 rfl ?_
        refine p_getI X hH fg_RX8_107 hf dX8_put_103 (fun v16 _ hf => ?_)
        refine lv_iconst (v := 1) hx hb dX8_put_106 (by decide) ?_
        refine lv_iadd hx hb dX8_put_107 ?_
        refine p_put X hH fp_RX8_107 rfl rfl hf dX8_put_108 (fun h H locs hH hf => ?_)
        refine lv_aload_n hx hb dX8_put_111 rfl (lv_at hl 0 rfl) ?_
        refine p_getR X hH fg_RX8_10 hf dX8_put_112 (fun v17 _ hf => ?_)
        refine p_getI X hH fg_RX8_107 hf dX8_put_115 (fun v18 _ hf => ?_)
        exact p_iret X hH hf (by decide) (by decide) dX8_put_118
      · refine lv_aload_n hx hb dX8_put_54 rfl (lv_at hl 0 rfl) ?_
        refine lv_iconst (v := 3) hx hb dX8_put_55 (by decide) ?_
        refine p_cVI (As := [.int (3 : Int32)]) (b := x0) (rest := []) (ci := 9) X hH rfl hf (fun _ _ e_ => c_X8_no l G x0 (3 : Int32) h _ _ e_) mv_X8_no lk_RX8_38 (by decide) rfl hl.1 (Nat.le_of_ble_eq_true rfl) dX8_put_56 (c2 := 0) (s2 := 0) (by decide) (fun v19 h H locs hH hf => ?_)
        exact p_iret X hH hf (by decide) (by decide) dX8_put_59
    · refine lv_aload_n hx hb dX8_put_36 rfl (lv_at hl 0 rfl) ?_
      refine lv_iconst (v := 2) hx hb dX8_put_37 (by decide) ?_
      refine p_cVI (As := [.int (2 : Int32)]) (b := x0) (rest := []) (ci := 9) X hH rfl hf (fun _ _ e_ => c_X8_no l G x0 (2 : Int32) h _ _ e_) mv_X8_no lk_RX8_38 (by decide) rfl hl.1 (Nat.le_of_ble_eq_true rfl) dX8_put_38 (c2 := 0) (s2 := 0) (by decide) (fun v20 h H locs hH hf => ?_)
      exact p_iret X hH hf (by decide) (by decide) dX8_put_41
  · refine lv_aload_n hx hb dX8_put_13 rfl (lv_at hl 0 rfl) ?_
    refine lv_iconst (v := 1) hx hb dX8_put_14 (by decide) ?_
    refine p_cVI (As := [.int (1 : Int32)]) (b := x0) (rest := []) (ci := 9) X hH rfl hf (fun _ _ e_ => c_X8_no l G x0 (1 : Int32) h _ _ e_) mv_X8_no lk_RX8_38 (by decide) rfl hl.1 (Nat.le_of_ble_eq_true rfl) dX8_put_15 (c2 := 0) (s2 := 0) (by decide) (fun v21 h H locs hH hf => ?_)
    exact p_iret X hH hf (by decide) (by decide) dX8_put_18
set_option maxRecDepth 100000 in
set_option maxHeartbeats 4000000 in
theorem w_X8_motionTold_b41 {G : GE} {p : Program} (l : Launch) {e : Env} {s : State} {m : MethodId} {args : Array Value} {below : List Frame} {meth : Method} {c : Code} {rr : Int32} {hh : PH} (X : Cx G p s m args meth c cX8_motionTold 3 RX8 "motionTold" (some .int)) (t0 : Nat) (t1 : Int32) (t2 : Int32) (h : PH) (H : Heap) (locs : List Loc) (ls : Array Slot) (hH : Hx G s h H locs) (hl : lv_has ls 3 []) (hf : f_X8_motionTold_b41 G t0 t1 t2 h = some (rr, hh)) : W p l e rm_X8_motionTold s m args below meth c H locs 0 0 (Fq G (some (.int rr)) hh below args s rm_X8_motionTold.cells rm_X8_motionTold.slots) (F0 m 41 ls [.int t2, .int t1, .ref t0]) := by
  have hx := X.1
  have hb := X.2.1
  unfold f_X8_motionTold_b41 at hf
  refine p_cVI (As := [.int t1, .int t2]) (b := t0) (rest := []) (ci := 8) X hH rfl hf (fun _ _ e_ => c_X7_votes l G t0 t1 t2 h _ _ e_) mv_X7_votes lk_RX8_113 (by decide) rfl hl.1 (Nat.le_of_ble_eq_true rfl) dX8_motionTold_41 (c2 := 0) (s2 := 0) (by decide) (fun v10 h H locs hH hf => ?_)
  exact p_iret X hH hf (by decide) (by decide) dX8_motionTold_44
set_option maxRecDepth 100000 in
set_option maxHeartbeats 4000000 in
theorem w_X8_motionTold_b86 {G : GE} {p : Program} (l : Launch) {e : Env} {s : State} {m : MethodId} {args : Array Value} {below : List Frame} {meth : Method} {c : Code} {rr : Int32} {hh : PH} (X : Cx G p s m args meth c cX8_motionTold 3 RX8 "motionTold" (some .int)) (t0 : Int32) (h : PH) (H : Heap) (locs : List Loc) (ls : Array Slot) (hH : Hx G s h H locs) (hl : lv_has ls 3 []) (hf : f_X8_motionTold_b86 G t0 h = some (rr, hh)) : W p l e rm_X8_motionTold s m args below meth c H locs 0 0 (Fq G (some (.int rr)) hh below args s rm_X8_motionTold.cells rm_X8_motionTold.slots) (F0 m 86 ls [.int t0]) := by
  have hx := X.1
  have hb := X.2.1
  unfold f_X8_motionTold_b86 at hf
  exact p_iret X hH hf (by decide) (by decide) dX8_motionTold_86
set_option maxRecDepth 100000 in
set_option maxHeartbeats 4000000 in
theorem c_X8_motionTold (l : Launch) (G : GE) (x0 : Nat) (x1 : Int32) (x2 : Int32) (h : PH) (rr : Int32) (hh : PH) (hf : f_X8_motionTold G x0 x1 x2 h = some (rr, hh)) : Ct l yX8_motionTold cX8_motionTold 3 (some .int) rm_X8_motionTold G [.ref x0, .int x1, .int x2] h (some (.int rr)) hh := by
  refine Ct.of (plainFor_of_name (by decide)) (Nat.le_of_ble_eq_true rfl) ?_
  intro p e s m args below meth c ls X hH hl
  have hl : lv_has ls 3 [(0, .ref x0), (1, .int x1), (2, .int x2)] := hl
  have X : Cx G p s m args meth c cX8_motionTold 3 RX8 "motionTold" (some .int) := X
  have hx := X.1
  have hb := X.2.1
  unfold f_X8_motionTold at hf
  obtain ⟨H, hHe⟩ : ∃ z, z = s.heap := ⟨_, rfl⟩
  obtain ⟨locs, hLe⟩ : ∃ z, z = ([] : List Loc) := ⟨_, rfl⟩
  rw [← hHe, ← hLe] at hH
  rw [← hHe, ← hLe]
  refine lv_iload_n hx hb dX8_motionTold_0 rfl (lv_at hl 2 rfl) ?_
  refine lv_iconst (v := 4) hx hb dX8_motionTold_1 (by decide) ?_
  refine p_icmp_ge X hf dX8_motionTold_2 (tgt := 20) (by decide) (fun _ hf => ?_) (fun _ hf => ?_)
  · refine lv_iload_n hx hb dX8_motionTold_20 rfl (lv_at hl 2 rfl) ?_
    refine lv_bipush (v := 6) hx hb dX8_motionTold_21 (by decide) ?_
    refine p_icmp_ge X hf dX8_motionTold_23 (tgt := 45) (by decide) (fun _ hf => ?_) (fun _ hf => ?_)
    · refine lv_iload_n hx hb dX8_motionTold_45 rfl (lv_at hl 2 rfl) ?_
      refine lv_bipush (v := 6) hx hb dX8_motionTold_46 (by decide) ?_
      refine p_icmp_ne X hf dX8_motionTold_48 (tgt := 70) (by decide) (fun _ hf => ?_) (fun _ hf => ?_)
      · refine lv_aload_n hx hb dX8_motionTold_70 rfl (lv_at hl 0 rfl) ?_
        refine p_getR X hH fg_RX8_10 hf dX8_motionTold_71 (fun v1 _ hf => ?_)
        refine p_getR X hH fg_RX8_98 hf dX8_motionTold_74 (fun v2 _ hf => ?_)
        refine lv_bipush (v := 6) hx hb dX8_motionTold_77 (by decide) ?_
        refine lv_iload_n hx hb dX8_motionTold_79 rfl (lv_at hl 1 rfl) ?_
        refine lv_imul hx hb dX8_motionTold_80 ?_
        refine lv_iload_n hx hb dX8_motionTold_81 rfl (lv_at hl 2 rfl) ?_
        refine lv_iadd hx hb dX8_motionTold_82 ?_
        refine lv_iconst (v := 3) hx hb dX8_motionTold_83 (by decide) ?_
        refine lv_isub hx hb dX8_motionTold_84 ?_
        refine p_iald X hH hf dX8_motionTold_85 (fun v3 _ hf => ?_)
        exact w_X8_motionTold_b86 l X v3 h H locs ls hH (lv_sub hl [] rfl) hf
      · refine lv_aload_n hx hb dX8_motionTold_51 rfl (lv_at hl 0 rfl) ?_
        refine p_getR X hH fg_RX8_10 hf dX8_motionTold_52 (fun v4 _ hf => ?_)
        refine lv_iload_n hx hb dX8_motionTold_55 rfl (lv_at hl 1 rfl) ?_
        refine p_cVI (As := [.int x1]) (b := v4) (rest := []) (ci := 8) X hH rfl hf (fun _ _ e_ => c_X7_would l G v4 x1 h _ _ e_) mv_X7_would lk_RX8_116 (by decide) rfl hl.1 (Nat.le_of_ble_eq_true rfl) dX8_motionTold_56 (c2 := 0) (s2 := 0) (by decide) (fun v5 h H locs hH hf => ?_)
        refine p_if_eq X hf dX8_motionTold_59 (tgt := 66) (by decide) (fun _ hf => ?_) (fun _ hf => ?_)
        · refine lv_iconst (v := 0) hx hb dX8_motionTold_66 (by decide) ?_
          refine lv_goto (tgt := 86) hx hb dX8_motionTold_67 (by decide) ?_
          exact w_X8_motionTold_b86 l X (0 : Int32) h H locs ls hH (lv_sub hl [] rfl) hf
        · refine lv_iconst (v := 1) hx hb dX8_motionTold_62 (by decide) ?_
          refine lv_goto (tgt := 86) hx hb dX8_motionTold_63 (by decide) ?_
          exact w_X8_motionTold_b86 l X (1 : Int32) h H locs ls hH (lv_sub hl [] rfl) hf
    · refine lv_aload_n hx hb dX8_motionTold_26 rfl (lv_at hl 0 rfl) ?_
      refine p_getR X hH fg_RX8_10 hf dX8_motionTold_27 (fun v6 _ hf => ?_)
      refine lv_iload_n hx hb dX8_motionTold_30 rfl (lv_at hl 1 rfl) ?_
      refine lv_iload_n hx hb dX8_motionTold_31 rfl (lv_at hl 2 rfl) ?_
      refine lv_iconst (v := 4) hx hb dX8_motionTold_32 (by decide) ?_
      refine p_icmp_ne X hf dX8_motionTold_33 (tgt := 40) (by decide) (fun _ hf => ?_) (fun _ hf => ?_)
      · refine lv_iconst (v := -1) hx hb dX8_motionTold_40 (by decide) ?_
        exact w_X8_motionTold_b41 l X v6 x1 (-1 : Int32) h H locs ls hH (lv_sub hl [] rfl) hf
      · refine lv_iconst (v := 1) hx hb dX8_motionTold_36 (by decide) ?_
        refine lv_goto (tgt := 41) hx hb dX8_motionTold_37 (by decide) ?_
        exact w_X8_motionTold_b41 l X v6 x1 (1 : Int32) h H locs ls hH (lv_sub hl [] rfl) hf
  · refine lv_aload_n hx hb dX8_motionTold_5 rfl (lv_at hl 0 rfl) ?_
    refine p_getR X hH fg_RX8_10 hf dX8_motionTold_6 (fun v7 _ hf => ?_)
    refine p_getR X hH fg_RX8_98 hf dX8_motionTold_9 (fun v8 _ hf => ?_)
    refine lv_bipush (v := 6) hx hb dX8_motionTold_12 (by decide) ?_
    refine lv_iload_n hx hb dX8_motionTold_14 rfl (lv_at hl 1 rfl) ?_
    refine lv_imul hx hb dX8_motionTold_15 ?_
    refine lv_iload_n hx hb dX8_motionTold_16 rfl (lv_at hl 2 rfl) ?_
    refine lv_iadd hx hb dX8_motionTold_17 ?_
    refine p_iald X hH hf dX8_motionTold_18 (fun v9 _ hf => ?_)
    exact p_iret X hH hf (by decide) (by decide) dX8_motionTold_19
set_option maxRecDepth 100000 in
set_option maxHeartbeats 4000000 in
theorem w_X8_motion_b37 {G : GE} {p : Program} (l : Launch) {e : Env} {s : State} {m : MethodId} {args : Array Value} {below : List Frame} {meth : Method} {c : Code} {rr : Int32} {hh : PH} (X : Cx G p s m args meth c cX8_motion 3 RX8 "motion" (some .int)) (t0 : Int32) (h : PH) (H : Heap) (locs : List Loc) (ls : Array Slot) (hH : Hx G s h H locs) (hl : lv_has ls 3 []) (hf : f_X8_motion_b37 G t0 h = some (rr, hh)) : W p l e rm_X8_motion s m args below meth c H locs 0 0 (Fq G (some (.int rr)) hh below args s rm_X8_motion.cells rm_X8_motion.slots) (F0 m 37 ls [.int t0]) := by
  have hx := X.1
  have hb := X.2.1
  unfold f_X8_motion_b37 at hf
  exact p_iret X hH hf (by decide) (by decide) dX8_motion_37
set_option maxRecDepth 100000 in
set_option maxHeartbeats 4000000 in
theorem w_X8_motion_b32 {G : GE} {p : Program} (l : Launch) {e : Env} {s : State} {m : MethodId} {args : Array Value} {below : List Frame} {meth : Method} {c : Code} {rr : Int32} {hh : PH} (X : Cx G p s m args meth c cX8_motion 3 RX8 "motion" (some .int)) (x0 : Nat) (h : PH) (H : Heap) (locs : List Loc) (ls : Array Slot) (hH : Hx G s h H locs) (hl : lv_has ls 3 [(0, .ref x0)]) (hf : f_X8_motion_b32 G x0 h = some (rr, hh)) : W p l e rm_X8_motion s m args below meth c H locs 0 0 (Fq G (some (.int rr)) hh below args s rm_X8_motion.cells rm_X8_motion.slots) (F0 m 32 ls []) := by
  have hx := X.1
  have hb := X.2.1
  unfold f_X8_motion_b32 at hf
  refine lv_aload_n hx hb dX8_motion_32 rfl (lv_at hl 0 rfl) ?_
  refine lv_iconst (v := 1) hx hb dX8_motion_33 (by decide) ?_
  refine p_cVI (As := [.int (1 : Int32)]) (b := x0) (rest := []) (ci := 9) X hH rfl hf (fun _ _ e_ => c_X8_no l G x0 (1 : Int32) h _ _ e_) mv_X8_no lk_RX8_38 (by decide) rfl hl.1 (Nat.le_of_ble_eq_true rfl) dX8_motion_34 (c2 := 0) (s2 := 0) (by decide) (fun v4 h H locs hH hf => ?_)
  exact w_X8_motion_b37 l X v4 h H locs ls hH (lv_sub hl [] rfl) hf
set_option maxRecDepth 100000 in
set_option maxHeartbeats 4000000 in
theorem c_X8_motion (l : Launch) (G : GE) (x0 : Nat) (x1 : Int32) (x2 : Int32) (h : PH) (rr : Int32) (hh : PH) (hf : f_X8_motion G x0 x1 x2 h = some (rr, hh)) : Ct l yX8_motion cX8_motion 3 (some .int) rm_X8_motion G [.ref x0, .int x1, .int x2] h (some (.int rr)) hh := by
  refine Ct.of (plainFor_of_name (by decide)) (Nat.le_of_ble_eq_true rfl) ?_
  intro p e s m args below meth c ls X hH hl
  have hl : lv_has ls 3 [(0, .ref x0), (1, .int x1), (2, .int x2)] := hl
  have X : Cx G p s m args meth c cX8_motion 3 RX8 "motion" (some .int) := X
  have hx := X.1
  have hb := X.2.1
  unfold f_X8_motion at hf
  obtain ⟨H, hHe⟩ : ∃ z, z = s.heap := ⟨_, rfl⟩
  obtain ⟨locs, hLe⟩ : ∃ z, z = ([] : List Loc) := ⟨_, rfl⟩
  rw [← hHe, ← hLe] at hH
  rw [← hHe, ← hLe]
  refine lv_aload_n hx hb dX8_motion_0 rfl (lv_at hl 0 rfl) ?_
  refine lv_iconst (v := 0) hx hb dX8_motion_1 (by decide) ?_
  refine p_put X hH fp_RX8_19 rfl rfl hf dX8_motion_2 (fun h H locs hH hf => ?_)
  refine lv_aload_n hx hb dX8_motion_5 rfl (lv_at hl 0 rfl) ?_
  refine lv_iload_n hx hb dX8_motion_6 rfl (lv_at hl 1 rfl) ?_
  refine p_cVI (As := [.int x1]) (b := x0) (rest := []) (ci := 9) X hH rfl hf (fun _ _ e_ => c_X8_isMotion l G x0 x1 h _ _ e_) mv_X8_isMotion lk_RX8_101 (by decide) rfl hl.1 (Nat.le_of_ble_eq_true rfl) dX8_motion_7 (c2 := 0) (s2 := 0) (by decide) (fun v1 h H locs hH hf => ?_)
  refine p_if_eq X hf dX8_motion_10 (tgt := 32) (by decide) (fun _ hf => ?_) (fun _ hf => ?_)
  · exact w_X8_motion_b32 l X x0 h H locs ls hH (lv_sub hl [0] rfl) hf
  · refine lv_iload_n hx hb dX8_motion_13 rfl (lv_at hl 2 rfl) ?_
    refine lv_iconst (v := 0) hx hb dX8_motion_14 (by decide) ?_
    refine lv_bipush (v := 8) hx hb dX8_motion_15 (by decide) ?_
    refine p_cSI (As := [.int x2, .int (0 : Int32), .int (8 : Int32)]) (rest := []) X hH hf (fun _ _ e_ => c_X8_isIn l G x2 (0 : Int32) (8 : Int32) h _ _ e_) ms_X8_isIn lk_RX8_34 (by decide) rfl hl.1 (Nat.le_of_ble_eq_true rfl) dX8_motion_17 (c2 := 0) (s2 := 0) (by decide) (fun v2 h H locs hH hf => ?_)
    refine p_if_eq X hf dX8_motion_20 (tgt := 32) (by decide) (fun _ hf => ?_) (fun _ hf => ?_)
    · exact w_X8_motion_b32 l X x0 h H locs ls hH (lv_sub hl [0] rfl) hf
    · refine lv_aload_n hx hb dX8_motion_23 rfl (lv_at hl 0 rfl) ?_
      refine lv_iload_n hx hb dX8_motion_24 rfl (lv_at hl 1 rfl) ?_
      refine lv_iload_n hx hb dX8_motion_25 rfl (lv_at hl 2 rfl) ?_
      refine p_cVI (As := [.int x1, .int x2]) (b := x0) (rest := []) (ci := 9) X hH rfl hf (fun _ _ e_ => c_X8_motionTold l G x0 x1 x2 h _ _ e_) mv_X8_motionTold lk_RX8_119 (by decide) rfl hl.1 (Nat.le_of_ble_eq_true rfl) dX8_motion_26 (c2 := 0) (s2 := 0) (by decide) (fun v3 h H locs hH hf => ?_)
      refine lv_goto (tgt := 37) hx hb dX8_motion_29 (by decide) ?_
      exact w_X8_motion_b37 l X v3 h H locs ls hH (lv_sub hl [] rfl) hf
set_option maxRecDepth 100000 in
set_option maxHeartbeats 4000000 in
theorem w_X8_stand_b38 {G : GE} {p : Program} (l : Launch) {e : Env} {s : State} {m : MethodId} {args : Array Value} {below : List Frame} {meth : Method} {c : Code} {rr : Int32} {hh : PH} (X : Cx G p s m args meth c cX8_stand 3 RX8 "stand" (some .int)) (t0 : Int32) (h : PH) (H : Heap) (locs : List Loc) (ls : Array Slot) (hH : Hx G s h H locs) (hl : lv_has ls 3 []) (hf : f_X8_stand_b38 G t0 h = some (rr, hh)) : W p l e rm_X8_stand s m args below meth c H locs 0 0 (Fq G (some (.int rr)) hh below args s rm_X8_stand.cells rm_X8_stand.slots) (F0 m 38 ls [.int t0]) := by
  have hx := X.1
  have hb := X.2.1
  unfold f_X8_stand_b38 at hf
  exact p_iret X hH hf (by decide) (by decide) dX8_stand_38
set_option maxRecDepth 100000 in
set_option maxHeartbeats 4000000 in
theorem w_X8_stand_b33 {G : GE} {p : Program} (l : Launch) {e : Env} {s : State} {m : MethodId} {args : Array Value} {below : List Frame} {meth : Method} {c : Code} {rr : Int32} {hh : PH} (X : Cx G p s m args meth c cX8_stand 3 RX8 "stand" (some .int)) (x0 : Nat) (h : PH) (H : Heap) (locs : List Loc) (ls : Array Slot) (hH : Hx G s h H locs) (hl : lv_has ls 3 [(0, .ref x0)]) (hf : f_X8_stand_b33 G x0 h = some (rr, hh)) : W p l e rm_X8_stand s m args below meth c H locs 0 0 (Fq G (some (.int rr)) hh below args s rm_X8_stand.cells rm_X8_stand.slots) (F0 m 33 ls []) := by
  have hx := X.1
  have hb := X.2.1
  unfold f_X8_stand_b33 at hf
  refine lv_aload_n hx hb dX8_stand_33 rfl (lv_at hl 0 rfl) ?_
  refine lv_iconst (v := 1) hx hb dX8_stand_34 (by decide) ?_
  refine p_cVI (As := [.int (1 : Int32)]) (b := x0) (rest := []) (ci := 9) X hH rfl hf (fun _ _ e_ => c_X8_no l G x0 (1 : Int32) h _ _ e_) mv_X8_no lk_RX8_38 (by decide) rfl hl.1 (Nat.le_of_ble_eq_true rfl) dX8_stand_35 (c2 := 0) (s2 := 0) (by decide) (fun v5 h H locs hH hf => ?_)
  exact w_X8_stand_b38 l X v5 h H locs ls hH (lv_sub hl [] rfl) hf
set_option maxRecDepth 100000 in
set_option maxHeartbeats 4000000 in
theorem c_X8_stand (l : Launch) (G : GE) (x0 : Nat) (x1 : Int32) (x2 : Int32) (h : PH) (rr : Int32) (hh : PH) (hf : f_X8_stand G x0 x1 x2 h = some (rr, hh)) : Ct l yX8_stand cX8_stand 3 (some .int) rm_X8_stand G [.ref x0, .int x1, .int x2] h (some (.int rr)) hh := by
  refine Ct.of (plainFor_of_name (by decide)) (Nat.le_of_ble_eq_true rfl) ?_
  intro p e s m args below meth c ls X hH hl
  have hl : lv_has ls 3 [(0, .ref x0), (1, .int x1), (2, .int x2)] := hl
  have X : Cx G p s m args meth c cX8_stand 3 RX8 "stand" (some .int) := X
  have hx := X.1
  have hb := X.2.1
  unfold f_X8_stand at hf
  obtain ⟨H, hHe⟩ : ∃ z, z = s.heap := ⟨_, rfl⟩
  obtain ⟨locs, hLe⟩ : ∃ z, z = ([] : List Loc) := ⟨_, rfl⟩
  rw [← hHe, ← hLe] at hH
  rw [← hHe, ← hLe]
  refine lv_aload_n hx hb dX8_stand_0 rfl (lv_at hl 0 rfl) ?_
  refine lv_iconst (v := 0) hx hb dX8_stand_1 (by decide) ?_
  refine p_put X hH fp_RX8_19 rfl rfl hf dX8_stand_2 (fun h H locs hH hf => ?_)
  refine lv_aload_n hx hb dX8_stand_5 rfl (lv_at hl 0 rfl) ?_
  refine lv_iload_n hx hb dX8_stand_6 rfl (lv_at hl 1 rfl) ?_
  refine p_cVI (As := [.int x1]) (b := x0) (rest := []) (ci := 9) X hH rfl hf (fun _ _ e_ => c_X8_isMotion l G x0 x1 h _ _ e_) mv_X8_isMotion lk_RX8_101 (by decide) rfl hl.1 (Nat.le_of_ble_eq_true rfl) dX8_stand_7 (c2 := 0) (s2 := 0) (by decide) (fun v1 h H locs hH hf => ?_)
  refine p_if_eq X hf dX8_stand_10 (tgt := 33) (by decide) (fun _ hf => ?_) (fun _ hf => ?_)
  · exact w_X8_stand_b33 l X x0 h H locs ls hH (lv_sub hl [0] rfl) hf
  · refine lv_aload_n hx hb dX8_stand_13 rfl (lv_at hl 0 rfl) ?_
    refine lv_iload_n hx hb dX8_stand_14 rfl (lv_at hl 2 rfl) ?_
    refine p_cVI (As := [.int x2]) (b := x0) (rest := []) (ci := 9) X hH rfl hf (fun _ _ e_ => c_X8_isVane l G x0 x2 h _ _ e_) mv_X8_isVane lk_RX8_68 (by decide) rfl hl.1 (Nat.le_of_ble_eq_true rfl) dX8_stand_15 (c2 := 0) (s2 := 0) (by decide) (fun v2 h H locs hH hf => ?_)
    refine p_if_eq X hf dX8_stand_18 (tgt := 33) (by decide) (fun _ hf => ?_) (fun _ hf => ?_)
    · exact w_X8_stand_b33 l X x0 h H locs ls hH (lv_sub hl [0] rfl) hf
    · refine lv_aload_n hx hb dX8_stand_21 rfl (lv_at hl 0 rfl) ?_
      refine p_getR X hH fg_RX8_10 hf dX8_stand_22 (fun v3 _ hf => ?_)
      refine lv_iload_n hx hb dX8_stand_25 rfl (lv_at hl 1 rfl) ?_
      refine lv_iload_n hx hb dX8_stand_26 rfl (lv_at hl 2 rfl) ?_
      refine p_cVI (As := [.int x1, .int x2]) (b := v3) (rest := []) (ci := 8) X hH rfl hf (fun _ _ e_ => c_X7_stand l G v3 x1 x2 h _ _ e_) mv_X7_stand lk_RX8_122 (by decide) rfl hl.1 (Nat.le_of_ble_eq_true rfl) dX8_stand_27 (c2 := 0) (s2 := 0) (by decide) (fun v4 h H locs hH hf => ?_)
      refine lv_goto (tgt := 38) hx hb dX8_stand_30 (by decide) ?_
      exact w_X8_stand_b38 l X v4 h H locs ls hH (lv_sub hl [] rfl) hf
set_option maxRecDepth 100000 in
set_option maxHeartbeats 4000000 in
theorem w_X8_pass_b46 {G : GE} {p : Program} (l : Launch) {e : Env} {s : State} {m : MethodId} {args : Array Value} {below : List Frame} {meth : Method} {c : Code} {rr : Int32} {hh : PH} (X : Cx G p s m args meth c cX8_pass 4 RX8 "pass" (some .int)) : ∀ (n : Nat) (x0 : Nat) (x1 : Int32) (x2 : Int32) (x3 : Int32) (h : PH) (H : Heap) (locs : List Loc) (ls : Array Slot) (hH : Hx G s h H locs) (hl : lv_has ls 4 [(0, .ref x0), (1, .int x1), (2, .int x2), (3, .int x3)]) (hf : f_X8_pass_b46 G n x0 x1 x2 x3 h = some (rr, hh)), W p l e rm_X8_pass s m args below meth c H locs 0 0 (Fq G (some (.int rr)) hh below args s rm_X8_pass.cells rm_X8_pass.slots) (F0 m 46 ls []) := by
  have hx := X.1
  have hb := X.2.1
  intro n
  induction n with
  | zero =>
    intro x0 x1 x2 x3 h H locs ls hH hl hf
    have hf : (none : Option (Int32 × PH)) = some (rr, hh) := hf
    cases hf
  | succ n ih =>
    intro x0 x1 x2 x3 h H locs ls hH hl hf
    have hf : f_X8_pass_b46_body G (f_X8_pass_b46 G n) x0 x1 x2 x3 h = some (rr, hh) := hf
    generalize f_X8_pass_b46 G n = k46 at hf ih
    have ik46 := ih
    unfold f_X8_pass_b46_body at hf
    refine lv_iload_n hx hb dX8_pass_46 rfl (lv_at hl 3 rfl) ?_
    refine lv_iload_n hx hb dX8_pass_47 rfl (lv_at hl 1 rfl) ?_
    refine p_icmp_ge X hf dX8_pass_48 (tgt := 67) (by decide) (fun _ hf => ?_) (fun _ hf => ?_)
    · refine lv_iload_n hx hb dX8_pass_67 rfl (lv_at hl 2 rfl) ?_
      exact p_iret X hH hf (by decide) (by decide) dX8_pass_68
    · refine lv_iload_n hx hb dX8_pass_51 rfl (lv_at hl 2 rfl) ?_
      refine lv_aload_n hx hb dX8_pass_52 rfl (lv_at hl 0 rfl) ?_
      refine p_getR X hH fg_RX8_10 hf dX8_pass_53 (fun v6 _ hf => ?_)
      refine p_cVI (As := []) (b := v6) (rest := [.int x2]) (ci := 8) X hH rfl hf (fun _ _ e_ => c_X7_pass l G v6 h _ _ e_) mv_X7_pass lk_RX8_125 (by decide) rfl hl.1 (Nat.le_of_ble_eq_true rfl) dX8_pass_56 (c2 := 0) (s2 := 0) (by decide) (fun v7 h H locs hH hf => ?_)
      refine lv_iadd hx hb dX8_pass_59 ?_
      refine lv_istore_n (lv' := [(2, .int (x2 + v7)), (0, .ref x0), (1, .int x1), (3, .int x3)]) hx hb dX8_pass_60 rfl hl (by decide) rfl (fun ls hl => ?_)
      refine lv_iinc (v := (x3 + (1 : Int32))) (lv' := [(3, .int (x3 + (1 : Int32))), (2, .int (x2 + v7)), (0, .ref x0), (1, .int x1)]) hx hb dX8_pass_61 hl (k := 3) rfl rfl (by decide) rfl (fun ls hl => ?_)
      refine lv_goto (tgt := 46) hx hb dX8_pass_64 (by decide) ?_
      exact ik46 x0 x1 (x2 + v7) (x3 + (1 : Int32)) h H locs ls hH (lv_sub hl [2, 3, 1, 0] rfl) hf
set_option maxRecDepth 100000 in
set_option maxHeartbeats 4000000 in
theorem c_X8_pass (l : Launch) (G : GE) (x0 : Nat) (x1 : Int32) (h : PH) (rr : Int32) (hh : PH) (hf : f_X8_pass G x0 x1 h = some (rr, hh)) : Ct l yX8_pass cX8_pass 4 (some .int) rm_X8_pass G [.ref x0, .int x1] h (some (.int rr)) hh := by
  refine Ct.of (plainFor_of_name (by decide)) (Nat.le_of_ble_eq_true rfl) ?_
  intro p e s m args below meth c ls X hH hl
  have hl : lv_has ls 4 [(0, .ref x0), (1, .int x1)] := hl
  have X : Cx G p s m args meth c cX8_pass 4 RX8 "pass" (some .int) := X
  have hx := X.1
  have hb := X.2.1
  unfold f_X8_pass at hf
  obtain ⟨H, hHe⟩ : ∃ z, z = s.heap := ⟨_, rfl⟩
  obtain ⟨locs, hLe⟩ : ∃ z, z = ([] : List Loc) := ⟨_, rfl⟩
  rw [← hHe, ← hLe] at hH
  rw [← hHe, ← hLe]
  refine lv_aload_n hx hb dX8_pass_0 rfl (lv_at hl 0 rfl) ?_
  refine lv_iconst (v := 0) hx hb dX8_pass_1 (by decide) ?_
  refine p_put X hH fp_RX8_19 rfl rfl hf dX8_pass_2 (fun h H locs hH hf => ?_)
  refine lv_iload_n hx hb dX8_pass_5 rfl (lv_at hl 1 rfl) ?_
  refine lv_iconst (v := 1) hx hb dX8_pass_6 (by decide) ?_
  refine lv_bipush (v := 100) hx hb dX8_pass_7 (by decide) ?_
  refine p_cSI (As := [.int x1, .int (1 : Int32), .int (100 : Int32)]) (rest := []) X hH hf (fun _ _ e_ => c_X8_isIn l G x1 (1 : Int32) (100 : Int32) h _ _ e_) ms_X8_isIn lk_RX8_34 (by decide) rfl hl.1 (Nat.le_of_ble_eq_true rfl) dX8_pass_9 (c2 := 0) (s2 := 0) (by decide) (fun v1 h H locs hH hf => ?_)
  refine p_if_ne X hf dX8_pass_12 (tgt := 21) (by decide) (fun _ hf => ?_) (fun _ hf => ?_)
  · refine lv_aload_n hx hb dX8_pass_21 rfl (lv_at hl 0 rfl) ?_
    refine p_getR X hH fg_RX8_10 hf dX8_pass_22 (fun v2 _ hf => ?_)
    refine p_getI X hH fg_RX8_104 hf dX8_pass_25 (fun v3 _ hf => ?_)
    refine lv_iload_n hx hb dX8_pass_28 rfl (lv_at hl 1 rfl) ?_
    refine lv_iadd hx hb dX8_pass_29 ?_
    refine lv_sipush (v := 2000) hx hb dX8_pass_30 (by decide) ?_
    refine p_icmp_le X hf dX8_pass_33 (tgt := 42) (by decide) (fun _ hf => ?_) (fun _ hf => ?_)
    · refine lv_iconst (v := 0) hx hb dX8_pass_42 (by decide) ?_
      refine lv_istore_n (lv' := [(2, .int (0 : Int32)), (0, .ref x0), (1, .int x1)]) hx hb dX8_pass_43 rfl hl (by decide) rfl (fun ls hl => ?_)
      refine lv_iconst (v := 0) hx hb dX8_pass_44 (by decide) ?_
      refine lv_istore_n (lv' := [(3, .int (0 : Int32)), (2, .int (0 : Int32)), (0, .ref x0), (1, .int x1)]) hx hb dX8_pass_45 rfl hl (by decide) rfl (fun ls hl => ?_)
      exact w_X8_pass_b46 l X LF x0 x1 (0 : Int32) (0 : Int32) h H locs ls hH (lv_sub hl [2, 3, 1, 0] rfl) hf
    · refine lv_aload_n hx hb dX8_pass_36 rfl (lv_at hl 0 rfl) ?_
      refine lv_iconst (v := 2) hx hb dX8_pass_37 (by decide) ?_
      refine p_cVI (As := [.int (2 : Int32)]) (b := x0) (rest := []) (ci := 9) X hH rfl hf (fun _ _ e_ => c_X8_no l G x0 (2 : Int32) h _ _ e_) mv_X8_no lk_RX8_38 (by decide) rfl hl.1 (Nat.le_of_ble_eq_true rfl) dX8_pass_38 (c2 := 0) (s2 := 0) (by decide) (fun v4 h H locs hH hf => ?_)
      exact p_iret X hH hf (by decide) (by decide) dX8_pass_41
  · refine lv_aload_n hx hb dX8_pass_15 rfl (lv_at hl 0 rfl) ?_
    refine lv_iconst (v := 1) hx hb dX8_pass_16 (by decide) ?_
    refine p_cVI (As := [.int (1 : Int32)]) (b := x0) (rest := []) (ci := 9) X hH rfl hf (fun _ _ e_ => c_X8_no l G x0 (1 : Int32) h _ _ e_) mv_X8_no lk_RX8_38 (by decide) rfl hl.1 (Nat.le_of_ble_eq_true rfl) dX8_pass_17 (c2 := 0) (s2 := 0) (by decide) (fun v5 h H locs hH hf => ?_)
    exact p_iret X hH hf (by decide) (by decide) dX8_pass_20
set_option maxRecDepth 100000 in
set_option maxHeartbeats 4000000 in
theorem w_X8_counted_b100 {G : GE} {p : Program} (l : Launch) {e : Env} {s : State} {m : MethodId} {args : Array Value} {below : List Frame} {meth : Method} {c : Code} {rr : Int32} {hh : PH} (X : Cx G p s m args meth c cX8_counted 6 RX8 "counted" (some .int)) (k10 : Nat → Int32 → Int32 → Int32 → Int32 → Int32 → PH → Option (Int32 × PH)) (ik10 : ∀ (x0 : Nat) (x1 : Int32) (x2 : Int32) (x3 : Int32) (x4 : Int32) (x5 : Int32) (h : PH) (H : Heap) (locs : List Loc) (ls : Array Slot), Hx G s h H locs → lv_has ls 6 [(0, .ref x0), (1, .int x1), (2, .int x2), (3, .int x3), (4, .int x4), (5, .int x5)] → k10 x0 x1 x2 x3 x4 x5 h = some (rr, hh) → W p l e rm_X8_counted s m args below meth c H locs 0 0 (Fq G (some (.int rr)) hh below args s rm_X8_counted.cells rm_X8_counted.slots) (F0 m 10 ls [])) (x0 : Nat) (x1 : Int32) (x2 : Int32) (x3 : Int32) (x5 : Int32) (t0 : Int32) (t1 : Int32) (h : PH) (H : Heap) (locs : List Loc) (ls : Array Slot) (hH : Hx G s h H locs) (hl : lv_has ls 6 [(0, .ref x0), (1, .int x1), (2, .int x2), (3, .int x3), (5, .int x5)]) (hf : f_X8_counted_b100 G k10 x0 x1 x2 x3 x5 t0 t1 h = some (rr, hh)) : W p l e rm_X8_counted s m args below meth c H locs 0 0 (Fq G (some (.int rr)) hh below args s rm_X8_counted.cells rm_X8_counted.slots) (F0 m 100 ls [.int t1, .int t0]) := by
  have hx := X.1
  have hb := X.2.1
  unfold f_X8_counted_b100 at hf
  refine lv_iadd hx hb dX8_counted_100 ?_
  refine lv_istore (lv' := [(4, .int (t0 + t1)), (0, .ref x0), (1, .int x1), (2, .int x2), (3, .int x3), (5, .int x5)]) hx hb dX8_counted_101 hl (by decide) rfl (fun ls hl => ?_)
  refine lv_iinc (v := (x5 + (1 : Int32))) (lv' := [(5, .int (x5 + (1 : Int32))), (4, .int (t0 + t1)), (0, .ref x0), (1, .int x1), (2, .int x2), (3, .int x3)]) hx hb dX8_counted_103 hl (k := 5) rfl rfl (by decide) rfl (fun ls hl => ?_)
  refine lv_goto (tgt := 10) hx hb dX8_counted_106 (by decide) ?_
  exact ik10 x0 x1 x2 x3 (t0 + t1) (x5 + (1 : Int32)) h H locs ls hH (lv_sub hl [2, 3, 4, 5, 1, 0] rfl) hf
set_option maxRecDepth 100000 in
set_option maxHeartbeats 4000000 in
theorem w_X8_counted_b99 {G : GE} {p : Program} (l : Launch) {e : Env} {s : State} {m : MethodId} {args : Array Value} {below : List Frame} {meth : Method} {c : Code} {rr : Int32} {hh : PH} (X : Cx G p s m args meth c cX8_counted 6 RX8 "counted" (some .int)) (k10 : Nat → Int32 → Int32 → Int32 → Int32 → Int32 → PH → Option (Int32 × PH)) (ik10 : ∀ (x0 : Nat) (x1 : Int32) (x2 : Int32) (x3 : Int32) (x4 : Int32) (x5 : Int32) (h : PH) (H : Heap) (locs : List Loc) (ls : Array Slot), Hx G s h H locs → lv_has ls 6 [(0, .ref x0), (1, .int x1), (2, .int x2), (3, .int x3), (4, .int x4), (5, .int x5)] → k10 x0 x1 x2 x3 x4 x5 h = some (rr, hh) → W p l e rm_X8_counted s m args below meth c H locs 0 0 (Fq G (some (.int rr)) hh below args s rm_X8_counted.cells rm_X8_counted.slots) (F0 m 10 ls [])) (x0 : Nat) (x1 : Int32) (x2 : Int32) (x3 : Int32) (x5 : Int32) (t0 : Int32) (h : PH) (H : Heap) (locs : List Loc) (ls : Array Slot) (hH : Hx G s h H locs) (hl : lv_has ls 6 [(0, .ref x0), (1, .int x1), (2, .int x2), (3, .int x3), (5, .int x5)]) (hf : f_X8_counted_b99 G k10 x0 x1 x2 x3 x5 t0 h = some (rr, hh)) : W p l e rm_X8_counted s m args below meth c H locs 0 0 (Fq G (some (.int rr)) hh below args s rm_X8_counted.cells rm_X8_counted.slots) (F0 m 99 ls [.int t0]) := by
  have hx := X.1
  have hb := X.2.1
  unfold f_X8_counted_b99 at hf
  refine lv_iconst (v := 0) hx hb dX8_counted_99 (by decide) ?_
  exact w_X8_counted_b100 l X k10 ik10 x0 x1 x2 x3 x5 t0 (0 : Int32) h H locs ls hH (lv_sub hl [0, 1, 2, 3, 4] rfl) hf
set_option maxRecDepth 100000 in
set_option maxHeartbeats 4000000 in
theorem w_X8_counted_b55 {G : GE} {p : Program} (l : Launch) {e : Env} {s : State} {m : MethodId} {args : Array Value} {below : List Frame} {meth : Method} {c : Code} {rr : Int32} {hh : PH} (X : Cx G p s m args meth c cX8_counted 6 RX8 "counted" (some .int)) (k10 : Nat → Int32 → Int32 → Int32 → Int32 → Int32 → PH → Option (Int32 × PH)) (ik10 : ∀ (x0 : Nat) (x1 : Int32) (x2 : Int32) (x3 : Int32) (x4 : Int32) (x5 : Int32) (h : PH) (H : Heap) (locs : List Loc) (ls : Array Slot), Hx G s h H locs → lv_has ls 6 [(0, .ref x0), (1, .int x1), (2, .int x2), (3, .int x3), (4, .int x4), (5, .int x5)] → k10 x0 x1 x2 x3 x4 x5 h = some (rr, hh) → W p l e rm_X8_counted s m args below meth c H locs 0 0 (Fq G (some (.int rr)) hh below args s rm_X8_counted.cells rm_X8_counted.slots) (F0 m 10 ls [])) (x0 : Nat) (x1 : Int32) (x2 : Int32) (x4 : Int32) (x5 : Int32) (t0 : Int32) (t1 : Int32) (h : PH) (H : Heap) (locs : List Loc) (ls : Array Slot) (hH : Hx G s h H locs) (hl : lv_has ls 6 [(0, .ref x0), (1, .int x1), (2, .int x2), (4, .int x4), (5, .int x5)]) (hf : f_X8_counted_b55 G k10 x0 x1 x2 x4 x5 t0 t1 h = some (rr, hh)) : W p l e rm_X8_counted s m args below meth c H locs 0 0 (Fq G (some (.int rr)) hh below args s rm_X8_counted.cells rm_X8_counted.slots) (F0 m 55 ls [.int t1, .int t0]) := by
  have hx := X.1
  have hb := X.2.1
  unfold f_X8_counted_b55 at hf
  refine lv_iadd hx hb dX8_counted_55 ?_
  refine lv_istore_n (lv' := [(3, .int (t0 + t1)), (0, .ref x0), (1, .int x1), (2, .int x2), (4, .int x4), (5, .int x5)]) hx hb dX8_counted_56 rfl hl (by decide) rfl (fun ls hl => ?_)
  refine lv_iload hx hb dX8_counted_57 (lv_at hl 4 rfl) ?_
  refine lv_aload_n hx hb dX8_counted_59 rfl (lv_at hl 1 rfl) ?_
  refine p_getR X hH fg_RX8_10 hf dX8_counted_60 (fun v21 _ hf => ?_)
  refine lv_iload hx hb dX8_counted_63 (lv_at hl 5 rfl) ?_
  refine lv_bipush (v := 8) hx hb dX8_counted_65 (by decide) ?_
  refine p_cVI (As := [.int x5, .int (8 : Int32)]) (b := v21) (rest := [.int x4]) (ci := 8) X hH rfl hf (fun _ _ e_ => c_X7_of l G v21 x5 (8 : Int32) h _ _ e_) mv_X7_of lk_RX8_56 (by decide) rfl hl.1 (Nat.le_of_ble_eq_true rfl) dX8_counted_67 (c2 := 0) (s2 := 0) (by decide) (fun v22 h H locs hH hf => ?_)
  refine p_if_ne X hf dX8_counted_70 (tgt := 99) (by decide) (fun _ hf => ?_) (fun _ hf => ?_)
  · exact w_X8_counted_b99 l X k10 ik10 x0 x1 x2 (t0 + t1) x5 x4 h H locs ls hH (lv_sub hl [1, 2, 3, 0, 5] rfl) hf
  · refine lv_aload_n hx hb dX8_counted_73 rfl (lv_at hl 1 rfl) ?_
    refine p_getR X hH fg_RX8_10 hf dX8_counted_74 (fun v23 _ hf => ?_)
    refine lv_iload hx hb dX8_counted_77 (lv_at hl 5 rfl) ?_
    refine p_cVI (As := [.int x5]) (b := v23) (rest := [.int x4]) (ci := 8) X hH rfl hf (fun _ _ e_ => c_X7_windAt l G v23 x5 h _ _ e_) mv_X7_windAt lk_RX8_83 (by decide) rfl hl.1 (Nat.le_of_ble_eq_true rfl) dX8_counted_79 (c2 := 0) (s2 := 0) (by decide) (fun v24 h H locs hH hf => ?_)
    refine lv_aload_n hx hb dX8_counted_82 rfl (lv_at hl 1 rfl) ?_
    refine p_getR X hH fg_RX8_10 hf dX8_counted_83 (fun v25 _ hf => ?_)
    refine lv_iload hx hb dX8_counted_86 (lv_at hl 5 rfl) ?_
    refine lv_iconst (v := 5) hx hb dX8_counted_88 (by decide) ?_
    refine p_cVI (As := [.int x5, .int (5 : Int32)]) (b := v25) (rest := [.int v24, .int x4]) (ci := 8) X hH rfl hf (fun _ _ e_ => c_X7_of l G v25 x5 (5 : Int32) h _ _ e_) mv_X7_of lk_RX8_56 (by decide) rfl hl.1 (Nat.le_of_ble_eq_true rfl) dX8_counted_89 (c2 := 0) (s2 := 0) (by decide) (fun v26 h H locs hH hf => ?_)
    refine p_icmp_gt X hf dX8_counted_92 (tgt := 99) (by decide) (fun _ hf => ?_) (fun _ hf => ?_)
    · exact w_X8_counted_b99 l X k10 ik10 x0 x1 x2 (t0 + t1) x5 x4 h H locs ls hH (lv_sub hl [1, 2, 3, 0, 5] rfl) hf
    · refine lv_iconst (v := 1) hx hb dX8_counted_95 (by decide) ?_
      refine lv_goto (tgt := 100) hx hb dX8_counted_96 (by decide) ?_
      exact w_X8_counted_b100 l X k10 ik10 x0 x1 x2 (t0 + t1) x5 x4 (1 : Int32) h H locs ls hH (lv_sub hl [1, 2, 3, 0, 5] rfl) hf
set_option maxRecDepth 100000 in
set_option maxHeartbeats 4000000 in
theorem w_X8_counted_b10 {G : GE} {p : Program} (l : Launch) {e : Env} {s : State} {m : MethodId} {args : Array Value} {below : List Frame} {meth : Method} {c : Code} {rr : Int32} {hh : PH} (X : Cx G p s m args meth c cX8_counted 6 RX8 "counted" (some .int)) : ∀ (n : Nat) (x0 : Nat) (x1 : Int32) (x2 : Int32) (x3 : Int32) (x4 : Int32) (x5 : Int32) (h : PH) (H : Heap) (locs : List Loc) (ls : Array Slot) (hH : Hx G s h H locs) (hl : lv_has ls 6 [(0, .ref x0), (1, .int x1), (2, .int x2), (3, .int x3), (4, .int x4), (5, .int x5)]) (hf : f_X8_counted_b10 G n x0 x1 x2 x3 x4 x5 h = some (rr, hh)), W p l e rm_X8_counted s m args below meth c H locs 0 0 (Fq G (some (.int rr)) hh below args s rm_X8_counted.cells rm_X8_counted.slots) (F0 m 10 ls []) := by
  have hx := X.1
  have hb := X.2.1
  intro n
  induction n with
  | zero =>
    intro x0 x1 x2 x3 x4 x5 h H locs ls hH hl hf
    have hf : (none : Option (Int32 × PH)) = some (rr, hh) := hf
    cases hf
  | succ n ih =>
    intro x0 x1 x2 x3 x4 x5 h H locs ls hH hl hf
    have hf : f_X8_counted_b10_body G (f_X8_counted_b10 G n) x0 x1 x2 x3 x4 x5 h = some (rr, hh) := hf
    generalize f_X8_counted_b10 G n = k10 at hf ih
    have ik10 := ih
    unfold f_X8_counted_b10_body at hf
    refine lv_iload hx hb dX8_counted_10 (lv_at hl 5 rfl) ?_
    refine lv_aload_n hx hb dX8_counted_12 rfl (lv_at hl 0 rfl) ?_
    refine p_getR X hH fg_RX8_10 hf dX8_counted_13 (fun v1 _ hf => ?_)
    refine p_getI X hH fg_RX8_53 hf dX8_counted_16 (fun v2 _ hf => ?_)
    refine p_icmp_ge X hf dX8_counted_19 (tgt := 109) (by decide) (fun _ hf => ?_) (fun _ hf => ?_)
    · refine lv_bipush (v := 9) hx hb dX8_counted_109 (by decide) ?_
      refine p_newI X hH m_524 (N := 9) (by decide) rfl (by decide) (by decide) (by decide) hf dX8_counted_111 (fun q3 h H hH hf => ?_)
      refine W.widen (k := 1) (n := 9) (by decide) (by decide) ?_
      refine lv_dup hx hb dX8_counted_113 rfl ?_
      refine lv_iconst (v := 0) hx hb dX8_counted_114 (by decide) ?_
      refine lv_aload_n hx hb dX8_counted_115 rfl (lv_at hl 0 rfl) ?_
      refine p_getR X hH fg_RX8_10 hf dX8_counted_116 (fun v4 _ hf => ?_)
      refine p_getI X hH fg_RX8_104 hf dX8_counted_119 (fun v5 _ hf => ?_)
      refine p_iast X hH hf dX8_counted_122 (fun h H locs hH hf => ?_)
      refine lv_dup hx hb dX8_counted_123 rfl ?_
      refine lv_iconst (v := 1) hx hb dX8_counted_124 (by decide) ?_
      refine lv_aload_n hx hb dX8_counted_125 rfl (lv_at hl 0 rfl) ?_
      refine p_getR X hH fg_RX8_10 hf dX8_counted_126 (fun v6 _ hf => ?_)
      refine p_getI X hH fg_RX8_53 hf dX8_counted_129 (fun v7 _ hf => ?_)
      refine p_iast X hH hf dX8_counted_132 (fun h H locs hH hf => ?_)
      refine lv_dup hx hb dX8_counted_133 rfl ?_
      refine lv_iconst (v := 2) hx hb dX8_counted_134 (by decide) ?_
      refine lv_aload_n hx hb dX8_counted_135 rfl (lv_at hl 0 rfl) ?_
      refine p_getR X hH fg_RX8_10 hf dX8_counted_136 (fun v8 _ hf => ?_)
      refine p_getI X hH fg_RX8_95 hf dX8_counted_139 (fun v9 _ hf => ?_)
      refine p_iast X hH hf dX8_counted_142 (fun h H locs hH hf => ?_)
      refine lv_dup hx hb dX8_counted_143 rfl ?_
      refine lv_iconst (v := 3) hx hb dX8_counted_144 (by decide) ?_
      refine lv_aload_n hx hb dX8_counted_145 rfl (lv_at hl 0 rfl) ?_
      refine p_getR X hH fg_RX8_10 hf dX8_counted_146 (fun v10 _ hf => ?_)
      refine p_getI X hH fg_RX8_42 hf dX8_counted_149 (fun v11 _ hf => ?_)
      refine p_iast X hH hf dX8_counted_152 (fun h H locs hH hf => ?_)
      refine lv_dup hx hb dX8_counted_153 rfl ?_
      refine lv_iconst (v := 4) hx hb dX8_counted_154 (by decide) ?_
      refine lv_aload_n hx hb dX8_counted_155 rfl (lv_at hl 0 rfl) ?_
      refine p_getR X hH fg_RX8_10 hf dX8_counted_156 (fun v12 _ hf => ?_)
      refine p_getI X hH fg_RX8_107 hf dX8_counted_159 (fun v13 _ hf => ?_)
      refine p_iast X hH hf dX8_counted_162 (fun h H locs hH hf => ?_)
      refine lv_dup hx hb dX8_counted_163 rfl ?_
      refine lv_iconst (v := 5) hx hb dX8_counted_164 (by decide) ?_
      refine lv_iload_n hx hb dX8_counted_165 rfl (lv_at hl 2 rfl) ?_
      refine p_iast X hH hf dX8_counted_166 (fun h H locs hH hf => ?_)
      refine lv_dup hx hb dX8_counted_167 rfl ?_
      refine lv_bipush (v := 6) hx hb dX8_counted_168 (by decide) ?_
      refine lv_aload_n hx hb dX8_counted_170 rfl (lv_at hl 0 rfl) ?_
      refine p_getR X hH fg_RX8_10 hf dX8_counted_171 (fun v14 _ hf => ?_)
      refine p_getI X hH fg_RX8_129 hf dX8_counted_174 (fun v15 _ hf => ?_)
      refine p_iast X hH hf dX8_counted_177 (fun h H locs hH hf => ?_)
      refine lv_dup hx hb dX8_counted_178 rfl ?_
      refine lv_bipush (v := 7) hx hb dX8_counted_179 (by decide) ?_
      refine lv_iload_n hx hb dX8_counted_181 rfl (lv_at hl 3 rfl) ?_
      refine p_iast X hH hf dX8_counted_182 (fun h H locs hH hf => ?_)
      refine lv_dup hx hb dX8_counted_183 rfl ?_
      refine lv_bipush (v := 8) hx hb dX8_counted_184 (by decide) ?_
      refine lv_iload hx hb dX8_counted_186 (lv_at hl 4 rfl) ?_
      refine p_iast X hH hf dX8_counted_188 (fun h H locs hH hf => ?_)
      refine lv_astore (lv' := [(5, .ref q3), (0, .ref x0), (1, .int x1), (2, .int x2), (3, .int x3), (4, .int x4)]) hx hb dX8_counted_189 hl (by decide) rfl (fun ls hl => ?_)
      refine lv_aload hx hb dX8_counted_191 (lv_at hl 0 rfl) ?_
      refine lv_iload_n hx hb dX8_counted_193 rfl (lv_at hl 2 rfl) ?_
      refine p_iald X hH hf dX8_counted_194 (fun v16 _ hf => ?_)
      exact p_iret X hH hf (by decide) (by decide) dX8_counted_195
    · refine lv_iload_n hx hb dX8_counted_22 rfl (lv_at hl 2 rfl) ?_
      refine lv_aload_n hx hb dX8_counted_23 rfl (lv_at hl 0 rfl) ?_
      refine p_getR X hH fg_RX8_10 hf dX8_counted_24 (fun v17 _ hf => ?_)
      refine lv_iload hx hb dX8_counted_27 (lv_at hl 5 rfl) ?_
      refine lv_iconst (v := 4) hx hb dX8_counted_29 (by decide) ?_
      refine p_cVI (As := [.int x5, .int (4 : Int32)]) (b := v17) (rest := [.int x2]) (ci := 8) X hH rfl hf (fun _ _ e_ => c_X7_of l G v17 x5 (4 : Int32) h _ _ e_) mv_X7_of lk_RX8_56 (by decide) rfl hl.1 (Nat.le_of_ble_eq_true rfl) dX8_counted_30 (c2 := 0) (s2 := 0) (by decide) (fun v18 h H locs hH hf => ?_)
      refine lv_iadd hx hb dX8_counted_33 ?_
      refine lv_istore_n (lv' := [(2, .int (x2 + v18)), (0, .ref x0), (1, .int x1), (3, .int x3), (4, .int x4), (5, .int x5)]) hx hb dX8_counted_34 rfl hl (by decide) rfl (fun ls hl => ?_)
      refine lv_iload_n hx hb dX8_counted_35 rfl (lv_at hl 3 rfl) ?_
      refine lv_aload_n hx hb dX8_counted_36 rfl (lv_at hl 1 rfl) ?_
      refine p_getR X hH fg_RX8_10 hf dX8_counted_37 (fun v19 _ hf => ?_)
      refine lv_iload hx hb dX8_counted_40 (lv_at hl 5 rfl) ?_
      refine lv_bipush (v := 8) hx hb dX8_counted_42 (by decide) ?_
      refine p_cVI (As := [.int x5, .int (8 : Int32)]) (b := v19) (rest := [.int x3]) (ci := 8) X hH rfl hf (fun _ _ e_ => c_X7_of l G v19 x5 (8 : Int32) h _ _ e_) mv_X7_of lk_RX8_56 (by decide) rfl hl.1 (Nat.le_of_ble_eq_true rfl) dX8_counted_44 (c2 := 0) (s2 := 0) (by decide) (fun v20 h H locs hH hf => ?_)
      refine p_if_le X hf dX8_counted_47 (tgt := 54) (by decide) (fun _ hf => ?_) (fun _ hf => ?_)
      · refine lv_iconst (v := 0) hx hb dX8_counted_54 (by decide) ?_
        exact w_X8_counted_b55 l X k10 ik10 x0 x1 (x2 + v18) x4 x5 x3 (0 : Int32) h H locs ls hH (lv_sub hl [1, 2, 0, 4, 5] rfl) hf
      · refine lv_iconst (v := 1) hx hb dX8_counted_50 (by decide) ?_
        refine lv_goto (tgt := 55) hx hb dX8_counted_51 (by decide) ?_
        exact w_X8_counted_b55 l X k10 ik10 x0 x1 (x2 + v18) x4 x5 x3 (1 : Int32) h H locs ls hH (lv_sub hl [1, 2, 0, 4, 5] rfl) hf
set_option maxRecDepth 100000 in
set_option maxHeartbeats 4000000 in
theorem c_X8_counted (l : Launch) (G : GE) (x0 : Nat) (x1 : Int32) (h : PH) (rr : Int32) (hh : PH) (hf : f_X8_counted G x0 x1 h = some (rr, hh)) : Ct l yX8_counted cX8_counted 6 (some .int) rm_X8_counted G [.ref x0, .int x1] h (some (.int rr)) hh := by
  refine Ct.of (plainFor_of_name (by decide)) (Nat.le_of_ble_eq_true rfl) ?_
  intro p e s m args below meth c ls X hH hl
  have hl : lv_has ls 6 [(0, .ref x0), (1, .int x1)] := hl
  have X : Cx G p s m args meth c cX8_counted 6 RX8 "counted" (some .int) := X
  have hx := X.1
  have hb := X.2.1
  unfold f_X8_counted at hf
  obtain ⟨H, hHe⟩ : ∃ z, z = s.heap := ⟨_, rfl⟩
  obtain ⟨locs, hLe⟩ : ∃ z, z = ([] : List Loc) := ⟨_, rfl⟩
  rw [← hHe, ← hLe] at hH
  rw [← hHe, ← hLe]
  refine lv_iconst (v := 0) hx hb dX8_counted_0 (by decide) ?_
  refine lv_istore_n (lv' := [(2, .int (0 : Int32)), (0, .ref x0), (1, .int x1)]) hx hb dX8_counted_1 rfl hl (by decide) rfl (fun ls hl => ?_)
  refine lv_iconst (v := 0) hx hb dX8_counted_2 (by decide) ?_
  refine lv_istore_n (lv' := [(3, .int (0 : Int32)), (2, .int (0 : Int32)), (0, .ref x0), (1, .int x1)]) hx hb dX8_counted_3 rfl hl (by decide) rfl (fun ls hl => ?_)
  refine lv_iconst (v := 0) hx hb dX8_counted_4 (by decide) ?_
  refine lv_istore (lv' := [(4, .int (0 : Int32)), (3, .int (0 : Int32)), (2, .int (0 : Int32)), (0, .ref x0), (1, .int x1)]) hx hb dX8_counted_5 hl (by decide) rfl (fun ls hl => ?_)
  refine lv_iconst (v := 0) hx hb dX8_counted_7 (by decide) ?_
  refine lv_istore (lv' := [(5, .int (0 : Int32)), (4, .int (0 : Int32)), (3, .int (0 : Int32)), (2, .int (0 : Int32)), (0, .ref x0), (1, .int x1)]) hx hb dX8_counted_8 hl (by decide) rfl (fun ls hl => ?_)
  exact w_X8_counted_b10 l X LF x0 x1 (0 : Int32) (0 : Int32) (0 : Int32) (0 : Int32) h H locs ls hH (lv_sub hl [4, 5, 3, 2, 1, 0] rfl) hf
