/-! ===== walks (printed by program) ===== -/
set_option maxRecDepth 100000 in
set_option maxHeartbeats 4000000 in
theorem w_X2_noteVoting_b24 {G : GE} {p : Program} (l : Launch) {e : Env} {s : State} {m : MethodId} {args : Array Value} {below : List Frame} {meth : Method} {c : Code} {rr : Unit} {hh : PH} (X : Cx G p s m args meth c cX2_noteVoting 2 RX2 "noteVoting" none)  (h : PH) (H : Heap) (locs : List Loc) (ls : Array Slot) (hH : Hx G s h H locs) (hl : lv_has ls 2 []) (hf : f_X2_noteVoting_b24 G  h = some (rr, hh)) : W p l e rm_X2_noteVoting s m args below meth c H locs 0 0 (Fq G none hh below args s rm_X2_noteVoting.cells rm_X2_noteVoting.slots) (F0 m 24 ls []) := by
  have hx := X.1
  have hb := X.2.1
  unfold f_X2_noteVoting_b24 at hf
  exact p_vret X hH hf (by decide) (by decide) dX2_noteVoting_24
set_option maxRecDepth 100000 in
set_option maxHeartbeats 4000000 in
theorem c_X2_noteVoting (l : Launch) (G : GE) (x0 : Nat) (x1 : Int32) (h : PH) (rr : Unit) (hh : PH) (hf : f_X2_noteVoting G x0 x1 h = some (rr, hh)) : Ct l yX2_noteVoting cX2_noteVoting 2 none rm_X2_noteVoting G [.ref x0, .int x1] h none hh := by
  refine Ct.of (plainFor_of_name (by decide)) (Nat.le_of_ble_eq_true rfl) ?_
  intro p e s m args below meth c ls X hH hl
  have hl : lv_has ls 2 [(0, .ref x0), (1, .int x1)] := hl
  have X : Cx G p s m args meth c cX2_noteVoting 2 RX2 "noteVoting" none := X
  have hx := X.1
  have hb := X.2.1
  unfold f_X2_noteVoting at hf
  obtain ⟨H, hHe⟩ : ∃ z, z = s.heap := ⟨_, rfl⟩
  obtain ⟨locs, hLe⟩ : ∃ z, z = ([] : List Loc) := ⟨_, rfl⟩
  rw [← hHe, ← hLe] at hH
  rw [← hHe, ← hLe]
  refine lv_aload_n hx hb dX2_noteVoting_0 rfl (lv_at hl 0 rfl) ?_
  refine lv_dup hx hb dX2_noteVoting_1 rfl ?_
  refine p_getI X hH fg_RX2_37 hf dX2_noteVoting_2 (fun v1 _ hf => ?_)
  refine lv_iconst (v := 1) hx hb dX2_noteVoting_5 (by decide) ?_
  refine lv_iadd hx hb dX2_noteVoting_6 ?_
  refine p_put X hH fp_RX2_37 rfl rfl hf dX2_noteVoting_7 (fun h H locs hH hf => ?_)
  refine lv_iload_n hx hb dX2_noteVoting_10 rfl (lv_at hl 1 rfl) ?_
  refine p_if_eq X hf dX2_noteVoting_11 (tgt := 24) (by decide) (fun _ hf => ?_) (fun _ hf => ?_)
  · exact w_X2_noteVoting_b24 l X  h H locs ls hH (lv_sub hl [] rfl) hf
  · refine lv_aload_n hx hb dX2_noteVoting_14 rfl (lv_at hl 0 rfl) ?_
    refine lv_dup hx hb dX2_noteVoting_15 rfl ?_
    refine p_getI X hH fg_RX2_40 hf dX2_noteVoting_16 (fun v2 _ hf => ?_)
    refine lv_iconst (v := 1) hx hb dX2_noteVoting_19 (by decide) ?_
    refine lv_iadd hx hb dX2_noteVoting_20 ?_
    refine p_put X hH fp_RX2_40 rfl rfl hf dX2_noteVoting_21 (fun h H locs hH hf => ?_)
    exact w_X2_noteVoting_b24 l X  h H locs ls hH (lv_sub hl [] rfl) hf
set_option maxRecDepth 100000 in
set_option maxHeartbeats 4000000 in
theorem c_Jxa1e45_init_da8c8 (l : Launch) (G : GE) (x0 : Nat) (h : PH) (rr : Unit) (hh : PH) (hf : f_Jxa1e45_init_da8c8 G x0 h = some (rr, hh)) : Ct l yJxa1e45_init_da8c8 cJxa1e45_init_da8c8 1 none rm_Jxa1e45_init_da8c8 G [.ref x0] h none hh := by
  refine Ct.of (plainFor_of_name (by decide)) (Nat.le_of_ble_eq_true rfl) ?_
  intro p e s m args below meth c ls X hH hl
  have hl : lv_has ls 1 [(0, .ref x0)] := hl
  have X : Cx G p s m args meth c cJxa1e45_init_da8c8 1 RJxa1e45 "<init>" none := X
  have hx := X.1
  have hb := X.2.1
  unfold f_Jxa1e45_init_da8c8 at hf
  obtain ⟨H, hHe⟩ : ∃ z, z = s.heap := ⟨_, rfl⟩
  obtain ⟨locs, hLe⟩ : ∃ z, z = ([] : List Loc) := ⟨_, rfl⟩
  rw [← hHe, ← hLe] at hH
  rw [← hHe, ← hLe]
  refine lv_aload_n hx hb dJxa1e45_init_da8c8_0 rfl (lv_at hl 0 rfl) ?_
  refine p_oinit X m_100 m_63 m_64 hl.1 dJxa1e45_init_da8c8_1 (by decide) (Nat.le_of_ble_eq_true rfl) ?_
  exact p_vret X hH hf (by decide) (by decide) dJxa1e45_init_da8c8_4
set_option maxRecDepth 100000 in
set_option maxHeartbeats 4000000 in
theorem c_Jxc12de_init_da8c8 (l : Launch) (G : GE) (x0 : Nat) (h : PH) (rr : Unit) (hh : PH) (hf : f_Jxc12de_init_da8c8 G x0 h = some (rr, hh)) : Ct l yJxc12de_init_da8c8 cJxc12de_init_da8c8 1 none rm_Jxc12de_init_da8c8 G [.ref x0] h none hh := by
  refine Ct.of (plainFor_of_name (by decide)) (Nat.le_of_ble_eq_true rfl) ?_
  intro p e s m args below meth c ls X hH hl
  have hl : lv_has ls 1 [(0, .ref x0)] := hl
  have X : Cx G p s m args meth c cJxc12de_init_da8c8 1 RJxc12de "<init>" none := X
  have hx := X.1
  have hb := X.2.1
  unfold f_Jxc12de_init_da8c8 at hf
  obtain ⟨H, hHe⟩ : ∃ z, z = s.heap := ⟨_, rfl⟩
  obtain ⟨locs, hLe⟩ : ∃ z, z = ([] : List Loc) := ⟨_, rfl⟩
  rw [← hHe, ← hLe] at hH
  rw [← hHe, ← hLe]
  refine lv_aload_n hx hb dJxc12de_init_da8c8_0 rfl (lv_at hl 0 rfl) ?_
  refine p_cIV (As := []) (b := x0) (rest := []) X hH hf (fun _ _ e_ => c_Jxa1e45_init_da8c8 l G x0 h _ _ e_) mi_Jxa1e45_init_da8c8 lk_RJxc12de_1 (by decide) rfl hl.1 (Nat.le_of_ble_eq_true rfl) dJxc12de_init_da8c8_1 (c2 := 0) (s2 := 0) (by decide) (fun _ h H locs hH hf => ?_)
  refine lv_aload_n hx hb dJxc12de_init_da8c8_4 rfl (lv_at hl 0 rfl) ?_
  refine lv_iconst (v := 0) hx hb dJxc12de_init_da8c8_5 (by decide) ?_
  refine p_put X hH fp_RJxc12de_7 rfl rfl hf dJxc12de_init_da8c8_6 (fun h H locs hH hf => ?_)
  exact p_vret X hH hf (by decide) (by decide) dJxc12de_init_da8c8_9
set_option maxRecDepth 100000 in
set_option maxHeartbeats 4000000 in
theorem c_Jx4a65c_init_da8c8 (l : Launch) (G : GE) (x0 : Nat) (h : PH) (rr : Unit) (hh : PH) (hf : f_Jx4a65c_init_da8c8 G x0 h = some (rr, hh)) : Ct l yJx4a65c_init_da8c8 cJx4a65c_init_da8c8 1 none rm_Jx4a65c_init_da8c8 G [.ref x0] h none hh := by
  refine Ct.of (plainFor_of_name (by decide)) (Nat.le_of_ble_eq_true rfl) ?_
  intro p e s m args below meth c ls X hH hl
  have hl : lv_has ls 1 [(0, .ref x0)] := hl
  have X : Cx G p s m args meth c cJx4a65c_init_da8c8 1 RJx4a65c "<init>" none := X
  have hx := X.1
  have hb := X.2.1
  unfold f_Jx4a65c_init_da8c8 at hf
  obtain ⟨H, hHe⟩ : ∃ z, z = s.heap := ⟨_, rfl⟩
  obtain ⟨locs, hLe⟩ : ∃ z, z = ([] : List Loc) := ⟨_, rfl⟩
  rw [← hHe, ← hLe] at hH
  rw [← hHe, ← hLe]
  refine lv_aload_n hx hb dJx4a65c_init_da8c8_0 rfl (lv_at hl 0 rfl) ?_
  refine p_cIV (As := []) (b := x0) (rest := []) X hH hf (fun _ _ e_ => c_Jxc12de_init_da8c8 l G x0 h _ _ e_) mi_Jxc12de_init_da8c8 lk_RJx4a65c_1 (by decide) rfl hl.1 (Nat.le_of_ble_eq_true rfl) dJx4a65c_init_da8c8_1 (c2 := 0) (s2 := 0) (by decide) (fun _ h H locs hH hf => ?_)
  refine lv_aload_n hx hb dJx4a65c_init_da8c8_4 rfl (lv_at hl 0 rfl) ?_
  refine p_stat X hH X.2.2.2.2.2.1.2.1.2.2 m_101 dJx4a65c_init_da8c8_5 ?_
  refine p_put X hH fp_RJx4a65c_9 rfl rfl hf dJx4a65c_init_da8c8_8 (fun h H locs hH hf => ?_)
  exact p_vret X hH hf (by decide) (by decide) dJx4a65c_init_da8c8_11
set_option maxRecDepth 100000 in
set_option maxHeartbeats 4000000 in
theorem c_X3_init (l : Launch) (G : GE) (x0 : Nat) (h : PH) (rr : Unit) (hh : PH) (hf : f_X3_init G x0 h = some (rr, hh)) : Ct l yX3_init cX3_init 1 none rm_X3_init G [.ref x0] h none hh := by
  refine Ct.of (plainFor_of_name (by decide)) (Nat.le_of_ble_eq_true rfl) ?_
  intro p e s m args below meth c ls X hH hl
  have hl : lv_has ls 1 [(0, .ref x0)] := hl
  have X : Cx G p s m args meth c cX3_init 1 RX3 "<init>" none := X
  have hx := X.1
  have hb := X.2.1
  unfold f_X3_init at hf
  obtain ⟨H, hHe⟩ : ∃ z, z = s.heap := ⟨_, rfl⟩
  obtain ⟨locs, hLe⟩ : ∃ z, z = ([] : List Loc) := ⟨_, rfl⟩
  rw [← hHe, ← hLe] at hH
  rw [← hHe, ← hLe]
  refine lv_aload_n hx hb dX3_init_0 rfl (lv_at hl 0 rfl) ?_
  refine p_oinit X m_120 m_63 m_64 hl.1 dX3_init_1 (by decide) (Nat.le_of_ble_eq_true rfl) ?_
  refine lv_aload_n hx hb dX3_init_4 rfl (lv_at hl 0 rfl) ?_
  refine p_new X hH fn_RX3_9 (by decide) (by decide) hf dX3_init_5 (fun q1 h H hH hf => ?_)
  refine W.widen (k := 1) (n := 3) (by decide) (by decide) ?_
  refine lv_dup hx hb dX3_init_8 rfl ?_
  refine p_cIV (As := []) (b := q1) (rest := [.ref q1, .ref x0]) X hH hf (fun _ _ e_ => c_Jx4a65c_init_da8c8 l G q1 h _ _ e_) mi_Jx4a65c_init_da8c8 lk_RX3_11 (by decide) rfl hl.1 (Nat.le_of_ble_eq_true rfl) dX3_init_9 (c2 := 1) (s2 := 3) (by decide) (fun _ h H locs hH hf => ?_)
  refine p_put X hH fp_RX3_12 rfl rfl hf dX3_init_12 (fun h H locs hH hf => ?_)
  exact p_vret X hH hf (by decide) (by decide) dX3_init_15
set_option maxRecDepth 100000 in
set_option maxHeartbeats 4000000 in
theorem c_X4_copyFrom (l : Launch) (G : GE) (x0 : Nat) (x1 : Nat) (h : PH) (rr : Unit) (hh : PH) (hf : f_X4_copyFrom G x0 x1 h = some (rr, hh)) : Ct l yX4_copyFrom cX4_copyFrom 2 none rm_X4_copyFrom G [.ref x0, .ref x1] h none hh := by
  refine Ct.of (plainFor_of_name (by decide)) (Nat.le_of_ble_eq_true rfl) ?_
  intro p e s m args below meth c ls X hH hl
  have hl : lv_has ls 2 [(0, .ref x0), (1, .ref x1)] := hl
  have X : Cx G p s m args meth c cX4_copyFrom 2 RX4 "copyFrom" none := X
  have hx := X.1
  have hb := X.2.1
  unfold f_X4_copyFrom at hf
  obtain ⟨H, hHe⟩ : ∃ z, z = s.heap := ⟨_, rfl⟩
  obtain ⟨locs, hLe⟩ : ∃ z, z = ([] : List Loc) := ⟨_, rfl⟩
  rw [← hHe, ← hLe] at hH
  rw [← hHe, ← hLe]
  refine lv_aload_n hx hb dX4_copyFrom_0 rfl (lv_at hl 0 rfl) ?_
  refine lv_aload_n hx hb dX4_copyFrom_1 rfl (lv_at hl 1 rfl) ?_
  refine p_getI X hH fg_RX4_15 hf dX4_copyFrom_2 (fun v1 _ hf => ?_)
  refine p_put X hH fp_RX4_15 rfl rfl hf dX4_copyFrom_5 (fun h H locs hH hf => ?_)
  refine lv_aload_n hx hb dX4_copyFrom_8 rfl (lv_at hl 0 rfl) ?_
  refine lv_aload_n hx hb dX4_copyFrom_9 rfl (lv_at hl 1 rfl) ?_
  refine p_getI X hH fg_RX4_22 hf dX4_copyFrom_10 (fun v2 _ hf => ?_)
  refine p_put X hH fp_RX4_22 rfl rfl hf dX4_copyFrom_13 (fun h H locs hH hf => ?_)
  refine lv_aload_n hx hb dX4_copyFrom_16 rfl (lv_at hl 0 rfl) ?_
  refine lv_aload_n hx hb dX4_copyFrom_17 rfl (lv_at hl 1 rfl) ?_
  refine p_getI X hH fg_RX4_19 hf dX4_copyFrom_18 (fun v3 _ hf => ?_)
  refine p_put X hH fp_RX4_19 rfl rfl hf dX4_copyFrom_21 (fun h H locs hH hf => ?_)
  refine lv_aload_n hx hb dX4_copyFrom_24 rfl (lv_at hl 0 rfl) ?_
  refine lv_aload_n hx hb dX4_copyFrom_25 rfl (lv_at hl 1 rfl) ?_
  refine p_getI X hH fg_RX4_25 hf dX4_copyFrom_26 (fun v4 _ hf => ?_)
  refine p_put X hH fp_RX4_25 rfl rfl hf dX4_copyFrom_29 (fun h H locs hH hf => ?_)
  refine lv_aload_n hx hb dX4_copyFrom_32 rfl (lv_at hl 0 rfl) ?_
  refine lv_aload_n hx hb dX4_copyFrom_33 rfl (lv_at hl 1 rfl) ?_
  refine p_getI X hH fg_RX4_28 hf dX4_copyFrom_34 (fun v5 _ hf => ?_)
  refine p_put X hH fp_RX4_28 rfl rfl hf dX4_copyFrom_37 (fun h H locs hH hf => ?_)
  refine lv_aload_n hx hb dX4_copyFrom_40 rfl (lv_at hl 0 rfl) ?_
  refine lv_aload_n hx hb dX4_copyFrom_41 rfl (lv_at hl 1 rfl) ?_
  refine p_getI X hH fg_RX4_31 hf dX4_copyFrom_42 (fun v6 _ hf => ?_)
  refine p_put X hH fp_RX4_31 rfl rfl hf dX4_copyFrom_45 (fun h H locs hH hf => ?_)
  exact p_vret X hH hf (by decide) (by decide) dX4_copyFrom_48
set_option maxRecDepth 100000 in
set_option maxHeartbeats 4000000 in
theorem w_X3_copyAllFrom_b55 {G : GE} {p : Program} (l : Launch) {e : Env} {s : State} {m : MethodId} {args : Array Value} {below : List Frame} {meth : Method} {c : Code} {rr : Unit} {hh : PH} (X : Cx G p s m args meth c cX3_copyAllFrom 3 RX3 "copyAllFrom" none)  (h : PH) (H : Heap) (locs : List Loc) (ls : Array Slot) (hH : Hx G s h H locs) (hl : lv_has ls 3 []) (hf : f_X3_copyAllFrom_b55 G  h = some (rr, hh)) : W p l e rm_X3_copyAllFrom s m args below meth c H locs 0 0 (Fq G none hh below args s rm_X3_copyAllFrom.cells rm_X3_copyAllFrom.slots) (F0 m 55 ls []) := by
  have hx := X.1
  have hb := X.2.1
  unfold f_X3_copyAllFrom_b55 at hf
  exact p_vret X hH hf (by decide) (by decide) dX3_copyAllFrom_55
set_option maxRecDepth 100000 in
set_option maxHeartbeats 4000000 in
theorem w_X3_copyAllFrom_b2 {G : GE} {p : Program} (l : Launch) {e : Env} {s : State} {m : MethodId} {args : Array Value} {below : List Frame} {meth : Method} {c : Code} {rr : Unit} {hh : PH} (X : Cx G p s m args meth c cX3_copyAllFrom 3 RX3 "copyAllFrom" none) : ∀ (n : Nat) (x0 : Nat) (x1 : Nat) (x2 : Int32) (h : PH) (H : Heap) (locs : List Loc) (ls : Array Slot) (hH : Hx G s h H locs) (hl : lv_has ls 3 [(0, .ref x0), (1, .ref x1), (2, .int x2)]) (hf : f_X3_copyAllFrom_b2 G n x0 x1 x2 h = some (rr, hh)), W p l e rm_X3_copyAllFrom s m args below meth c H locs 0 0 (Fq G none hh below args s rm_X3_copyAllFrom.cells rm_X3_copyAllFrom.slots) (F0 m 2 ls []) := by
  have hx := X.1
  have hb := X.2.1
  intro n
  induction n with
  | zero =>
    intro x0 x1 x2 h H locs ls hH hl hf
    have hf : (none : Option (Unit × PH)) = some (rr, hh) := hf
    cases hf
  | succ n ih =>
    intro x0 x1 x2 h H locs ls hH hl hf
    have hf : f_X3_copyAllFrom_b2_body G (f_X3_copyAllFrom_b2 G n) x0 x1 x2 h = some (rr, hh) := hf
    generalize f_X3_copyAllFrom_b2 G n = k2 at hf ih
    have ik2 := ih
    unfold f_X3_copyAllFrom_b2_body at hf
    refine lv_iload_n hx hb dX3_copyAllFrom_2 rfl (lv_at hl 2 rfl) ?_
    refine lv_aload_n hx hb dX3_copyAllFrom_3 rfl (lv_at hl 0 rfl) ?_
    refine p_getR X hH fg_RX3_12 hf dX3_copyAllFrom_4 (fun v1 _ hf => ?_)
    refine p_cVI (As := []) (b := v1) (rest := [.int x2]) (ci := 0) X hH rfl hf (fun _ _ e_ => c_Jx4a65c_size_8abf5 l G v1 h _ _ e_) mv_Jx4a65c_size_8abf5 lk_RX3_18 (by decide) rfl hl.1 (Nat.le_of_ble_eq_true rfl) dX3_copyAllFrom_7 (c2 := 0) (s2 := 0) (by decide) (fun v2 h H locs hH hf => ?_)
    refine p_icmp_ge X hf dX3_copyAllFrom_10 (tgt := 55) (by decide) (fun _ hf => ?_) (fun _ hf => ?_)
    · exact w_X3_copyAllFrom_b55 l X  h H locs ls hH (lv_sub hl [] rfl) hf
    · refine lv_iload_n hx hb dX3_copyAllFrom_13 rfl (lv_at hl 2 rfl) ?_
      refine lv_aload_n hx hb dX3_copyAllFrom_14 rfl (lv_at hl 1 rfl) ?_
      refine p_getR X hH fg_RX3_12 hf dX3_copyAllFrom_15 (fun v3 _ hf => ?_)
      refine p_cVI (As := []) (b := v3) (rest := [.int x2]) (ci := 0) X hH rfl hf (fun _ _ e_ => c_Jx4a65c_size_8abf5 l G v3 h _ _ e_) mv_Jx4a65c_size_8abf5 lk_RX3_18 (by decide) rfl hl.1 (Nat.le_of_ble_eq_true rfl) dX3_copyAllFrom_18 (c2 := 0) (s2 := 0) (by decide) (fun v4 h H locs hH hf => ?_)
      refine p_icmp_ge X hf dX3_copyAllFrom_21 (tgt := 55) (by decide) (fun _ hf => ?_) (fun _ hf => ?_)
      · exact w_X3_copyAllFrom_b55 l X  h H locs ls hH (lv_sub hl [] rfl) hf
      · refine lv_aload_n hx hb dX3_copyAllFrom_24 rfl (lv_at hl 0 rfl) ?_
        refine p_getR X hH fg_RX3_12 hf dX3_copyAllFrom_25 (fun v5 _ hf => ?_)
        refine lv_iload_n hx hb dX3_copyAllFrom_28 rfl (lv_at hl 2 rfl) ?_
        refine p_cVR (As := [.int x2]) (b := v5) (rest := []) (ci := 0) X hH rfl hf (fun _ _ e_ => c_Jx4a65c_get_915e3 l G v5 x2 h _ _ e_) mv_Jx4a65c_get_915e3 lk_RX3_22 (by decide) rfl hl.1 (Nat.le_of_ble_eq_true rfl) dX3_copyAllFrom_29 (c2 := 0) (s2 := 0) (by decide) (fun v6 h H locs hH hf => ?_)
        refine p_cast X hH (ci := 5) rfl m_243 hf dX3_copyAllFrom_32 (fun _ hf => ?_)
        refine lv_aload_n hx hb dX3_copyAllFrom_35 rfl (lv_at hl 1 rfl) ?_
        refine p_getR X hH fg_RX3_12 hf dX3_copyAllFrom_36 (fun v7 _ hf => ?_)
        refine lv_iload_n hx hb dX3_copyAllFrom_39 rfl (lv_at hl 2 rfl) ?_
        refine p_cVR (As := [.int x2]) (b := v7) (rest := [.ref v6]) (ci := 0) X hH rfl hf (fun _ _ e_ => c_Jx4a65c_get_915e3 l G v7 x2 h _ _ e_) mv_Jx4a65c_get_915e3 lk_RX3_22 (by decide) rfl hl.1 (Nat.le_of_ble_eq_true rfl) dX3_copyAllFrom_40 (c2 := 0) (s2 := 0) (by decide) (fun v8 h H locs hH hf => ?_)
        refine p_cast X hH (ci := 5) rfl m_243 hf dX3_copyAllFrom_43 (fun _ hf => ?_)
        refine p_cVV (As := [.ref v8]) (b := v6) (rest := []) (ci := 5) X hH rfl hf (fun _ _ e_ => c_X4_copyFrom l G v6 v8 h _ _ e_) mv_X4_copyFrom lk_RX3_28 (by decide) rfl hl.1 (Nat.le_of_ble_eq_true rfl) dX3_copyAllFrom_46 (c2 := 0) (s2 := 0) (by decide) (fun _ h H locs hH hf => ?_)
        refine lv_iinc (v := (x2 + (1 : Int32))) (lv' := [(2, .int (x2 + (1 : Int32))), (0, .ref x0), (1, .ref x1)]) hx hb dX3_copyAllFrom_49 hl (k := 2) rfl rfl (by decide) rfl (fun ls hl => ?_)
        refine lv_goto (tgt := 2) hx hb dX3_copyAllFrom_52 (by decide) ?_
        exact ik2 x0 x1 (x2 + (1 : Int32)) h H locs ls hH (lv_sub hl [1, 2, 0] rfl) hf
set_option maxRecDepth 100000 in
set_option maxHeartbeats 4000000 in
theorem c_X3_copyAllFrom (l : Launch) (G : GE) (x0 : Nat) (x1 : Nat) (h : PH) (rr : Unit) (hh : PH) (hf : f_X3_copyAllFrom G x0 x1 h = some (rr, hh)) : Ct l yX3_copyAllFrom cX3_copyAllFrom 3 none rm_X3_copyAllFrom G [.ref x0, .ref x1] h none hh := by
  refine Ct.of (plainFor_of_name (by decide)) (Nat.le_of_ble_eq_true rfl) ?_
  intro p e s m args below meth c ls X hH hl
  have hl : lv_has ls 3 [(0, .ref x0), (1, .ref x1)] := hl
  have X : Cx G p s m args meth c cX3_copyAllFrom 3 RX3 "copyAllFrom" none := X
  have hx := X.1
  have hb := X.2.1
  unfold f_X3_copyAllFrom at hf
  obtain ⟨H, hHe⟩ : ∃ z, z = s.heap := ⟨_, rfl⟩
  obtain ⟨locs, hLe⟩ : ∃ z, z = ([] : List Loc) := ⟨_, rfl⟩
  rw [← hHe, ← hLe] at hH
  rw [← hHe, ← hLe]
  refine lv_iconst (v := 0) hx hb dX3_copyAllFrom_0 (by decide) ?_
  refine lv_istore_n (lv' := [(2, .int (0 : Int32)), (0, .ref x0), (1, .ref x1)]) hx hb dX3_copyAllFrom_1 rfl hl (by decide) rfl (fun ls hl => ?_)
  exact w_X3_copyAllFrom_b2 l X LF x0 x1 (0 : Int32) h H locs ls hH (lv_sub hl [1, 2, 0] rfl) hf
set_option maxRecDepth 100000 in
set_option maxHeartbeats 4000000 in
theorem w_X3_hasOneAt_b49 {G : GE} {p : Program} (l : Launch) {e : Env} {s : State} {m : MethodId} {args : Array Value} {below : List Frame} {meth : Method} {c : Code} {rr : Int32} {hh : PH} (X : Cx G p s m args meth c cX3_hasOneAt 5 RX3 "hasOneAt" (some .boolean)) (k2 : Nat → Int32 → Int32 → Int32 → PH → Option (Int32 × PH)) (ik2 : ∀ (x0 : Nat) (x1 : Int32) (x2 : Int32) (x3 : Int32) (h : PH) (H : Heap) (locs : List Loc) (ls : Array Slot), Hx G s h H locs → lv_has ls 5 [(0, .ref x0), (1, .int x1), (2, .int x2), (3, .int x3)] → k2 x0 x1 x2 x3 h = some (rr, hh) → W p l e rm_X3_hasOneAt s m args below meth c H locs 0 0 (Fq G (some (.int rr)) hh below args s rm_X3_hasOneAt.cells rm_X3_hasOneAt.slots) (F0 m 2 ls [])) (x0 : Nat) (x1 : Int32) (x2 : Int32) (x3 : Int32) (h : PH) (H : Heap) (locs : List Loc) (ls : Array Slot) (hH : Hx G s h H locs) (hl : lv_has ls 5 [(0, .ref x0), (1, .int x1), (2, .int x2), (3, .int x3)]) (hf : f_X3_hasOneAt_b49 G k2 x0 x1 x2 x3 h = some (rr, hh)) : W p l e rm_X3_hasOneAt s m args below meth c H locs 0 0 (Fq G (some (.int rr)) hh below args s rm_X3_hasOneAt.cells rm_X3_hasOneAt.slots) (F0 m 49 ls []) := by
  have hx := X.1
  have hb := X.2.1
  unfold f_X3_hasOneAt_b49 at hf
  refine lv_iinc (v := (x3 + (1 : Int32))) (lv' := [(3, .int (x3 + (1 : Int32))), (0, .ref x0), (1, .int x1), (2, .int x2)]) hx hb dX3_hasOneAt_49 hl (k := 3) rfl rfl (by decide) rfl (fun ls hl => ?_)
  refine lv_goto (tgt := 2) hx hb dX3_hasOneAt_52 (by decide) ?_
  exact ik2 x0 x1 x2 (x3 + (1 : Int32)) h H locs ls hH (lv_sub hl [1, 2, 3, 0] rfl) hf
set_option maxRecDepth 100000 in
set_option maxHeartbeats 4000000 in
theorem w_X3_hasOneAt_b2 {G : GE} {p : Program} (l : Launch) {e : Env} {s : State} {m : MethodId} {args : Array Value} {below : List Frame} {meth : Method} {c : Code} {rr : Int32} {hh : PH} (X : Cx G p s m args meth c cX3_hasOneAt 5 RX3 "hasOneAt" (some .boolean)) : ∀ (n : Nat) (x0 : Nat) (x1 : Int32) (x2 : Int32) (x3 : Int32) (h : PH) (H : Heap) (locs : List Loc) (ls : Array Slot) (hH : Hx G s h H locs) (hl : lv_has ls 5 [(0, .ref x0), (1, .int x1), (2, .int x2), (3, .int x3)]) (hf : f_X3_hasOneAt_b2 G n x0 x1 x2 x3 h = some (rr, hh)), W p l e rm_X3_hasOneAt s m args below meth c H locs 0 0 (Fq G (some (.int rr)) hh below args s rm_X3_hasOneAt.cells rm_X3_hasOneAt.slots) (F0 m 2 ls []) := by
  have hx := X.1
  have hb := X.2.1
  intro n
  induction n with
  | zero =>
    intro x0 x1 x2 x3 h H locs ls hH hl hf
    have hf : (none : Option (Int32 × PH)) = some (rr, hh) := hf
    cases hf
  | succ n ih =>
    intro x0 x1 x2 x3 h H locs ls hH hl hf
    have hf : f_X3_hasOneAt_b2_body G (f_X3_hasOneAt_b2 G n) x0 x1 x2 x3 h = some (rr, hh) := hf
    generalize f_X3_hasOneAt_b2 G n = k2 at hf ih
    have ik2 := ih
    unfold f_X3_hasOneAt_b2_body at hf
    refine lv_iload_n hx hb dX3_hasOneAt_2 rfl (lv_at hl 3 rfl) ?_
    refine lv_aload_n hx hb dX3_hasOneAt_3 rfl (lv_at hl 0 rfl) ?_
    refine p_getR X hH fg_RX3_12 hf dX3_hasOneAt_4 (fun v1 _ hf => ?_)
    refine p_cVI (As := []) (b := v1) (rest := [.int x3]) (ci := 0) X hH rfl hf (fun _ _ e_ => c_Jx4a65c_size_8abf5 l G v1 h _ _ e_) mv_Jx4a65c_size_8abf5 lk_RX3_18 (by decide) rfl hl.1 (Nat.le_of_ble_eq_true rfl) dX3_hasOneAt_7 (c2 := 0) (s2 := 0) (by decide) (fun v2 h H locs hH hf => ?_)
    refine p_icmp_ge X hf dX3_hasOneAt_10 (tgt := 55) (by decide) (fun _ hf => ?_) (fun _ hf => ?_)
    · refine lv_iconst (v := 0) hx hb dX3_hasOneAt_55 (by decide) ?_
      exact p_zret X hH hf (by decide) (by decide) dX3_hasOneAt_56
    · refine lv_aload_n hx hb dX3_hasOneAt_13 rfl (lv_at hl 0 rfl) ?_
      refine p_getR X hH fg_RX3_12 hf dX3_hasOneAt_14 (fun v3 _ hf => ?_)
      refine lv_iload_n hx hb dX3_hasOneAt_17 rfl (lv_at hl 3 rfl) ?_
      refine p_cVR (As := [.int x3]) (b := v3) (rest := []) (ci := 0) X hH rfl hf (fun _ _ e_ => c_Jx4a65c_get_915e3 l G v3 x3 h _ _ e_) mv_Jx4a65c_get_915e3 lk_RX3_22 (by decide) rfl hl.1 (Nat.le_of_ble_eq_true rfl) dX3_hasOneAt_18 (c2 := 0) (s2 := 0) (by decide) (fun v4 h H locs hH hf => ?_)
      refine p_cast X hH (ci := 5) rfl m_243 hf dX3_hasOneAt_21 (fun _ hf => ?_)
      refine p_getR X hH fg_RX3_32 hf dX3_hasOneAt_24 (fun v5 _ hf => ?_)
      refine lv_astore (lv' := [(4, .ref v5), (0, .ref x0), (1, .int x1), (2, .int x2), (3, .int x3)]) hx hb dX3_hasOneAt_27 hl (by decide) rfl (fun ls hl => ?_)
      refine lv_aload hx hb dX3_hasOneAt_29 (lv_at hl 0 rfl) ?_
      refine p_getI X hH fg_RX3_36 hf dX3_hasOneAt_31 (fun v6 _ hf => ?_)
      refine lv_iload_n hx hb dX3_hasOneAt_34 rfl (lv_at hl 2 rfl) ?_
      refine p_icmp_ne X hf dX3_hasOneAt_35 (tgt := 49) (by decide) (fun _ hf => ?_) (fun _ hf => ?_)
      · exact w_X3_hasOneAt_b49 l X k2 ik2 x0 x1 x2 x3 h H locs ls hH (lv_sub hl [1, 2, 3, 4] rfl) hf
      · refine lv_aload hx hb dX3_hasOneAt_38 (lv_at hl 0 rfl) ?_
        refine p_getI X hH fg_RX3_42 hf dX3_hasOneAt_40 (fun v7 _ hf => ?_)
        refine lv_iload_n hx hb dX3_hasOneAt_43 rfl (lv_at hl 3 rfl) ?_
        refine p_icmp_ne X hf dX3_hasOneAt_44 (tgt := 49) (by decide) (fun _ hf => ?_) (fun _ hf => ?_)
        · exact w_X3_hasOneAt_b49 l X k2 ik2 x0 x1 x2 x3 h H locs ls hH (lv_sub hl [1, 2, 3, 4] rfl) hf
        · refine lv_iconst (v := 1) hx hb dX3_hasOneAt_47 (by decide) ?_
          exact p_zret X hH hf (by decide) (by decide) dX3_hasOneAt_48
set_option maxRecDepth 100000 in
set_option maxHeartbeats 4000000 in
theorem c_X3_hasOneAt (l : Launch) (G : GE) (x0 : Nat) (x1 : Int32) (x2 : Int32) (h : PH) (rr : Int32) (hh : PH) (hf : f_X3_hasOneAt G x0 x1 x2 h = some (rr, hh)) : Ct l yX3_hasOneAt cX3_hasOneAt 5 (some .boolean) rm_X3_hasOneAt G [.ref x0, .int x1, .int x2] h (some (.int rr)) hh := by
  refine Ct.of (plainFor_of_name (by decide)) (Nat.le_of_ble_eq_true rfl) ?_
  intro p e s m args below meth c ls X hH hl
  have hl : lv_has ls 5 [(0, .ref x0), (1, .int x1), (2, .int x2)] := hl
  have X : Cx G p s m args meth c cX3_hasOneAt 5 RX3 "hasOneAt" (some .boolean) := X
  have hx := X.1
  have hb := X.2.1
  unfold f_X3_hasOneAt at hf
  obtain ⟨H, hHe⟩ : ∃ z, z = s.heap := ⟨_, rfl⟩
  obtain ⟨locs, hLe⟩ : ∃ z, z = ([] : List Loc) := ⟨_, rfl⟩
  rw [← hHe, ← hLe] at hH
  rw [← hHe, ← hLe]
  refine lv_iconst (v := 0) hx hb dX3_hasOneAt_0 (by decide) ?_
  refine lv_istore_n (lv' := [(3, .int (0 : Int32)), (0, .ref x0), (1, .int x1), (2, .int x2)]) hx hb dX3_hasOneAt_1 rfl hl (by decide) rfl (fun ls hl => ?_)
  exact w_X3_hasOneAt_b2 l X LF x0 x1 x2 (0 : Int32) h H locs ls hH (lv_sub hl [1, 2, 3, 0] rfl) hf
set_option maxRecDepth 100000 in
set_option maxHeartbeats 4000000 in
theorem w_X3_shelter_b2 {G : GE} {p : Program} (l : Launch) {e : Env} {s : State} {m : MethodId} {args : Array Value} {below : List Frame} {meth : Method} {c : Code} {rr : Unit} {hh : PH} (X : Cx G p s m args meth c cX3_shelter 3 RX3 "shelter" none) : ∀ (n : Nat) (x0 : Nat) (x1 : Nat) (x2 : Int32) (h : PH) (H : Heap) (locs : List Loc) (ls : Array Slot) (hH : Hx G s h H locs) (hl : lv_has ls 3 [(0, .ref x0), (1, .ref x1), (2, .int x2)]) (hf : f_X3_shelter_b2 G n x0 x1 x2 h = some (rr, hh)), W p l e rm_X3_shelter s m args below meth c H locs 0 0 (Fq G none hh below args s rm_X3_shelter.cells rm_X3_shelter.slots) (F0 m 2 ls []) := by
  have hx := X.1
  have hb := X.2.1
  intro n
  induction n with
  | zero =>
    intro x0 x1 x2 h H locs ls hH hl hf
    have hf : (none : Option (Unit × PH)) = some (rr, hh) := hf
    cases hf
  | succ n ih =>
    intro x0 x1 x2 h H locs ls hH hl hf
    have hf : f_X3_shelter_b2_body G (f_X3_shelter_b2 G n) x0 x1 x2 h = some (rr, hh) := hf
    generalize f_X3_shelter_b2 G n = k2 at hf ih
    have ik2 := ih
    unfold f_X3_shelter_b2_body at hf
    refine lv_iload_n hx hb dX3_shelter_2 rfl (lv_at hl 2 rfl) ?_
    refine lv_aload_n hx hb dX3_shelter_3 rfl (lv_at hl 0 rfl) ?_
    refine p_getR X hH fg_RX3_12 hf dX3_shelter_4 (fun v1 _ hf => ?_)
    refine p_cVI (As := []) (b := v1) (rest := [.int x2]) (ci := 0) X hH rfl hf (fun _ _ e_ => c_Jx4a65c_size_8abf5 l G v1 h _ _ e_) mv_Jx4a65c_size_8abf5 lk_RX3_18 (by decide) rfl hl.1 (Nat.le_of_ble_eq_true rfl) dX3_shelter_7 (c2 := 0) (s2 := 0) (by decide) (fun v2 h H locs hH hf => ?_)
    refine p_icmp_ge X hf dX3_shelter_10 (tgt := 55) (by decide) (fun _ hf => ?_) (fun _ hf => ?_)
    · exact p_vret X hH hf (by decide) (by decide) dX3_shelter_55
    · refine lv_aload_n hx hb dX3_shelter_13 rfl (lv_at hl 1 rfl) ?_
      refine lv_aload_n hx hb dX3_shelter_14 rfl (lv_at hl 0 rfl) ?_
      refine p_getR X hH fg_RX3_12 hf dX3_shelter_15 (fun v3 _ hf => ?_)
      refine lv_iload_n hx hb dX3_shelter_18 rfl (lv_at hl 2 rfl) ?_
      refine p_cVR (As := [.int x2]) (b := v3) (rest := [.ref x1]) (ci := 0) X hH rfl hf (fun _ _ e_ => c_Jx4a65c_get_915e3 l G v3 x2 h _ _ e_) mv_Jx4a65c_get_915e3 lk_RX3_22 (by decide) rfl hl.1 (Nat.le_of_ble_eq_true rfl) dX3_shelter_19 (c2 := 0) (s2 := 0) (by decide) (fun v4 h H locs hH hf => ?_)
      refine p_cast X hH (ci := 5) rfl m_243 hf dX3_shelter_22 (fun _ hf => ?_)
      refine p_getR X hH fg_RX3_32 hf dX3_shelter_25 (fun v5 _ hf => ?_)
      refine p_cVV (As := [.ref v5]) (b := x1) (rest := []) (ci := 2) X hH rfl hf (fun _ _ e_ => c_X1_lookAt l G x1 v5 h _ _ e_) mv_X1_lookAt lk_RX3_45 (by decide) rfl hl.1 (Nat.le_of_ble_eq_true rfl) dX3_shelter_28 (c2 := 0) (s2 := 0) (by decide) (fun _ h H locs hH hf => ?_)
      refine lv_aload_n hx hb dX3_shelter_31 rfl (lv_at hl 0 rfl) ?_
      refine p_getR X hH fg_RX3_12 hf dX3_shelter_32 (fun v6 _ hf => ?_)
      refine lv_iload_n hx hb dX3_shelter_35 rfl (lv_at hl 2 rfl) ?_
      refine p_cVR (As := [.int x2]) (b := v6) (rest := []) (ci := 0) X hH rfl hf (fun _ _ e_ => c_Jx4a65c_get_915e3 l G v6 x2 h _ _ e_) mv_Jx4a65c_get_915e3 lk_RX3_22 (by decide) rfl hl.1 (Nat.le_of_ble_eq_true rfl) dX3_shelter_36 (c2 := 0) (s2 := 0) (by decide) (fun v7 h H locs hH hf => ?_)
      refine p_cast X hH (ci := 5) rfl m_243 hf dX3_shelter_39 (fun _ hf => ?_)
      refine p_getR X hH fg_RX3_32 hf dX3_shelter_42 (fun v8 _ hf => ?_)
      refine lv_aload_n hx hb dX3_shelter_45 rfl (lv_at hl 1 rfl) ?_
      refine p_cVV (As := [.ref x1]) (b := v8) (rest := []) (ci := 2) X hH rfl hf (fun _ _ e_ => c_X1_lookAt l G v8 x1 h _ _ e_) mv_X1_lookAt lk_RX3_45 (by decide) rfl hl.1 (Nat.le_of_ble_eq_true rfl) dX3_shelter_46 (c2 := 0) (s2 := 0) (by decide) (fun _ h H locs hH hf => ?_)
      refine lv_iinc (v := (x2 + (1 : Int32))) (lv' := [(2, .int (x2 + (1 : Int32))), (0, .ref x0), (1, .ref x1)]) hx hb dX3_shelter_49 hl (k := 2) rfl rfl (by decide) rfl (fun ls hl => ?_)
      refine lv_goto (tgt := 2) hx hb dX3_shelter_52 (by decide) ?_
      exact ik2 x0 x1 (x2 + (1 : Int32)) h H locs ls hH (lv_sub hl [1, 2, 0] rfl) hf
set_option maxRecDepth 100000 in
set_option maxHeartbeats 4000000 in
theorem c_X3_shelter (l : Launch) (G : GE) (x0 : Nat) (x1 : Nat) (h : PH) (rr : Unit) (hh : PH) (hf : f_X3_shelter G x0 x1 h = some (rr, hh)) : Ct l yX3_shelter cX3_shelter 3 none rm_X3_shelter G [.ref x0, .ref x1] h none hh := by
  refine Ct.of (plainFor_of_name (by decide)) (Nat.le_of_ble_eq_true rfl) ?_
  intro p e s m args below meth c ls X hH hl
  have hl : lv_has ls 3 [(0, .ref x0), (1, .ref x1)] := hl
  have X : Cx G p s m args meth c cX3_shelter 3 RX3 "shelter" none := X
  have hx := X.1
  have hb := X.2.1
  unfold f_X3_shelter at hf
  obtain ⟨H, hHe⟩ : ∃ z, z = s.heap := ⟨_, rfl⟩
  obtain ⟨locs, hLe⟩ : ∃ z, z = ([] : List Loc) := ⟨_, rfl⟩
  rw [← hHe, ← hLe] at hH
  rw [← hHe, ← hLe]
  refine lv_iconst (v := 0) hx hb dX3_shelter_0 (by decide) ?_
  refine lv_istore_n (lv' := [(2, .int (0 : Int32)), (0, .ref x0), (1, .ref x1)]) hx hb dX3_shelter_1 rfl hl (by decide) rfl (fun ls hl => ?_)
  exact w_X3_shelter_b2 l X LF x0 x1 (0 : Int32) h H locs ls hH (lv_sub hl [1, 2, 0] rfl) hf
set_option maxRecDepth 100000 in
set_option maxHeartbeats 4000000 in
theorem w_X3_directionOf_b33 {G : GE} {p : Program} (l : Launch) {e : Env} {s : State} {m : MethodId} {args : Array Value} {below : List Frame} {meth : Method} {c : Code} {rr : Int32} {hh : PH} (X : Cx G p s m args meth c cX3_directionOf 2 RX3 "directionOf" (some .int)) (t0 : Int32) (h : PH) (H : Heap) (locs : List Loc) (ls : Array Slot) (hH : Hx G s h H locs) (hl : lv_has ls 2 []) (hf : f_X3_directionOf_b33 G t0 h = some (rr, hh)) : W p l e rm_X3_directionOf s m args below meth c H locs 0 0 (Fq G (some (.int rr)) hh below args s rm_X3_directionOf.cells rm_X3_directionOf.slots) (F0 m 33 ls [.int t0]) := by
  have hx := X.1
  have hb := X.2.1
  unfold f_X3_directionOf_b33 at hf
  exact p_iret X hH hf (by decide) (by decide) dX3_directionOf_33
set_option maxRecDepth 100000 in
set_option maxHeartbeats 4000000 in
theorem w_X3_directionOf_b32 {G : GE} {p : Program} (l : Launch) {e : Env} {s : State} {m : MethodId} {args : Array Value} {below : List Frame} {meth : Method} {c : Code} {rr : Int32} {hh : PH} (X : Cx G p s m args meth c cX3_directionOf 2 RX3 "directionOf" (some .int))  (h : PH) (H : Heap) (locs : List Loc) (ls : Array Slot) (hH : Hx G s h H locs) (hl : lv_has ls 2 []) (hf : f_X3_directionOf_b32 G  h = some (rr, hh)) : W p l e rm_X3_directionOf s m args below meth c H locs 0 0 (Fq G (some (.int rr)) hh below args s rm_X3_directionOf.cells rm_X3_directionOf.slots) (F0 m 32 ls []) := by
  have hx := X.1
  have hb := X.2.1
  unfold f_X3_directionOf_b32 at hf
  refine lv_iconst (v := 0) hx hb dX3_directionOf_32 (by decide) ?_
  exact w_X3_directionOf_b33 l X (0 : Int32) h H locs ls hH (lv_sub hl [] rfl) hf
set_option maxRecDepth 100000 in
set_option maxHeartbeats 4000000 in
theorem c_X3_directionOf (l : Launch) (G : GE) (x0 : Nat) (x1 : Int32) (h : PH) (rr : Int32) (hh : PH) (hf : f_X3_directionOf G x0 x1 h = some (rr, hh)) : Ct l yX3_directionOf cX3_directionOf 2 (some .int) rm_X3_directionOf G [.ref x0, .int x1] h (some (.int rr)) hh := by
  refine Ct.of (plainFor_of_name (by decide)) (Nat.le_of_ble_eq_true rfl) ?_
  intro p e s m args below meth c ls X hH hl
  have hl : lv_has ls 2 [(0, .ref x0), (1, .int x1)] := hl
  have X : Cx G p s m args meth c cX3_directionOf 2 RX3 "directionOf" (some .int) := X
  have hx := X.1
  have hb := X.2.1
  unfold f_X3_directionOf at hf
  obtain ⟨H, hHe⟩ : ∃ z, z = s.heap := ⟨_, rfl⟩
  obtain ⟨locs, hLe⟩ : ∃ z, z = ([] : List Loc) := ⟨_, rfl⟩
  rw [← hHe, ← hLe] at hH
  rw [← hHe, ← hLe]
  refine lv_iload_n hx hb dX3_directionOf_0 rfl (lv_at hl 1 rfl) ?_
  refine p_if_lt X hf dX3_directionOf_1 (tgt := 32) (by decide) (fun _ hf => ?_) (fun _ hf => ?_)
  · exact w_X3_directionOf_b32 l X  h H locs ls hH (lv_sub hl [] rfl) hf
  · refine lv_iload_n hx hb dX3_directionOf_4 rfl (lv_at hl 1 rfl) ?_
    refine lv_aload_n hx hb dX3_directionOf_5 rfl (lv_at hl 0 rfl) ?_
    refine p_getR X hH fg_RX3_12 hf dX3_directionOf_6 (fun v1 _ hf => ?_)
    refine p_cVI (As := []) (b := v1) (rest := [.int x1]) (ci := 0) X hH rfl hf (fun _ _ e_ => c_Jx4a65c_size_8abf5 l G v1 h _ _ e_) mv_Jx4a65c_size_8abf5 lk_RX3_18 (by decide) rfl hl.1 (Nat.le_of_ble_eq_true rfl) dX3_directionOf_9 (c2 := 0) (s2 := 0) (by decide) (fun v2 h H locs hH hf => ?_)
    refine p_icmp_ge X hf dX3_directionOf_12 (tgt := 32) (by decide) (fun _ hf => ?_) (fun _ hf => ?_)
    · exact w_X3_directionOf_b32 l X  h H locs ls hH (lv_sub hl [] rfl) hf
    · refine lv_aload_n hx hb dX3_directionOf_15 rfl (lv_at hl 0 rfl) ?_
      refine p_getR X hH fg_RX3_12 hf dX3_directionOf_16 (fun v3 _ hf => ?_)
      refine lv_iload_n hx hb dX3_directionOf_19 rfl (lv_at hl 1 rfl) ?_
      refine p_cVR (As := [.int x1]) (b := v3) (rest := []) (ci := 0) X hH rfl hf (fun _ _ e_ => c_Jx4a65c_get_915e3 l G v3 x1 h _ _ e_) mv_Jx4a65c_get_915e3 lk_RX3_22 (by decide) rfl hl.1 (Nat.le_of_ble_eq_true rfl) dX3_directionOf_20 (c2 := 0) (s2 := 0) (by decide) (fun v4 h H locs hH hf => ?_)
      refine p_cast X hH (ci := 5) rfl m_243 hf dX3_directionOf_23 (fun _ hf => ?_)
      refine p_getI X hH fg_RX3_49 hf dX3_directionOf_26 (fun v5 _ hf => ?_)
      refine lv_goto (tgt := 33) hx hb dX3_directionOf_29 (by decide) ?_
      exact w_X3_directionOf_b33 l X v5 h H locs ls hH (lv_sub hl [] rfl) hf
set_option maxRecDepth 100000 in
set_option maxHeartbeats 4000000 in
theorem c_X4_windHere (l : Launch) (G : GE) (x0 : Nat) (x1 : Nat) (h : PH) (rr : Int32) (hh : PH) (hf : f_X4_windHere G x0 x1 h = some (rr, hh)) : Ct l yX4_windHere cX4_windHere 2 (some .int) rm_X4_windHere G [.ref x0, .ref x1] h (some (.int rr)) hh := by
  refine Ct.of (plainFor_of_name (by decide)) (Nat.le_of_ble_eq_true rfl) ?_
  intro p e s m args below meth c ls X hH hl
  have hl : lv_has ls 2 [(0, .ref x0), (1, .ref x1)] := hl
  have X : Cx G p s m args meth c cX4_windHere 2 RX4 "windHere" (some .int) := X
  have hx := X.1
  have hb := X.2.1
  unfold f_X4_windHere at hf
  obtain ⟨H, hHe⟩ : ∃ z, z = s.heap := ⟨_, rfl⟩
  obtain ⟨locs, hLe⟩ : ∃ z, z = ([] : List Loc) := ⟨_, rfl⟩
  rw [← hHe, ← hLe] at hH
  rw [← hHe, ← hLe]
  refine lv_iconst (v := 0) hx hb dX4_windHere_0 (by decide) ?_
  refine lv_aload_n hx hb dX4_windHere_1 rfl (lv_at hl 1 rfl) ?_
  refine p_getI X hH fg_RX4_59 hf dX4_windHere_2 (fun v1 _ hf => ?_)
  refine lv_iconst (v := 2) hx hb dX4_windHere_5 (by decide) ?_
  refine lv_aload_n hx hb dX4_windHere_6 rfl (lv_at hl 0 rfl) ?_
  refine p_getR X hH fg_RX4_9 hf dX4_windHere_7 (fun v2 _ hf => ?_)
  refine lv_aload_n hx hb dX4_windHere_10 rfl (lv_at hl 1 rfl) ?_
  refine p_cVI (As := [.ref x1]) (b := v2) (rest := [.int (2 : Int32), .int v1, .int (0 : Int32)]) (ci := 2) X hH rfl hf (fun _ _ e_ => c_X1_leeOf l G v2 x1 h _ _ e_) mv_X1_leeOf lk_RX4_56 (by decide) rfl hl.1 (Nat.le_of_ble_eq_true rfl) dX4_windHere_11 (c2 := 0) (s2 := 0) (by decide) (fun v3 h H locs hH hf => ?_)
  refine lv_imul hx hb dX4_windHere_14 ?_
  refine lv_isub hx hb dX4_windHere_15 ?_
  refine p_max X m_305 m_148 m_39 m_149 hl.1 (by decide) (Nat.le_of_ble_eq_true rfl) (by decide) (by decide) dX4_windHere_16 ?_
  exact p_iret X hH hf (by decide) (by decide) dX4_windHere_19
set_option maxRecDepth 100000 in
set_option maxHeartbeats 4000000 in
theorem w_X4_isStuck_b17 {G : GE} {p : Program} (l : Launch) {e : Env} {s : State} {m : MethodId} {args : Array Value} {below : List Frame} {meth : Method} {c : Code} {rr : Int32} {hh : PH} (X : Cx G p s m args meth c cX4_isStuck 2 RX4 "isStuck" (some .boolean)) (t0 : Int32) (h : PH) (H : Heap) (locs : List Loc) (ls : Array Slot) (hH : Hx G s h H locs) (hl : lv_has ls 2 []) (hf : f_X4_isStuck_b17 G t0 h = some (rr, hh)) : W p l e rm_X4_isStuck s m args below meth c H locs 0 0 (Fq G (some (.int rr)) hh below args s rm_X4_isStuck.cells rm_X4_isStuck.slots) (F0 m 17 ls [.int t0]) := by
  have hx := X.1
  have hb := X.2.1
  unfold f_X4_isStuck_b17 at hf
  exact p_zret X hH hf (by decide) (by decide) dX4_isStuck_17
set_option maxRecDepth 100000 in
set_option maxHeartbeats 4000000 in
theorem c_X4_isStuck (l : Launch) (G : GE) (x0 : Nat) (x1 : Nat) (h : PH) (rr : Int32) (hh : PH) (hf : f_X4_isStuck G x0 x1 h = some (rr, hh)) : Ct l yX4_isStuck cX4_isStuck 2 (some .boolean) rm_X4_isStuck G [.ref x0, .ref x1] h (some (.int rr)) hh := by
  refine Ct.of (plainFor_of_name (by decide)) (Nat.le_of_ble_eq_true rfl) ?_
  intro p e s m args below meth c ls X hH hl
  have hl : lv_has ls 2 [(0, .ref x0), (1, .ref x1)] := hl
  have X : Cx G p s m args meth c cX4_isStuck 2 RX4 "isStuck" (some .boolean) := X
  have hx := X.1
  have hb := X.2.1
  unfold f_X4_isStuck at hf
  obtain ⟨H, hHe⟩ : ∃ z, z = s.heap := ⟨_, rfl⟩
  obtain ⟨locs, hLe⟩ : ∃ z, z = ([] : List Loc) := ⟨_, rfl⟩
  rw [← hHe, ← hLe] at hH
  rw [← hHe, ← hLe]
  refine lv_aload_n hx hb dX4_isStuck_0 rfl (lv_at hl 0 rfl) ?_
  refine lv_aload_n hx hb dX4_isStuck_1 rfl (lv_at hl 1 rfl) ?_
  refine p_cVI (As := [.ref x1]) (b := x0) (rest := []) (ci := 5) X hH rfl hf (fun _ _ e_ => c_X4_windHere l G x0 x1 h _ _ e_) mv_X4_windHere lk_RX4_52 (by decide) rfl hl.1 (Nat.le_of_ble_eq_true rfl) dX4_isStuck_2 (c2 := 0) (s2 := 0) (by decide) (fun v1 h H locs hH hf => ?_)
  refine lv_aload_n hx hb dX4_isStuck_5 rfl (lv_at hl 0 rfl) ?_
  refine p_getI X hH fg_RX4_22 hf dX4_isStuck_6 (fun v2 _ hf => ?_)
  refine p_icmp_gt X hf dX4_isStuck_9 (tgt := 16) (by decide) (fun _ hf => ?_) (fun _ hf => ?_)
  · refine lv_iconst (v := 0) hx hb dX4_isStuck_16 (by decide) ?_
    exact w_X4_isStuck_b17 l X (0 : Int32) h H locs ls hH (lv_sub hl [] rfl) hf
  · refine lv_iconst (v := 1) hx hb dX4_isStuck_12 (by decide) ?_
    refine lv_goto (tgt := 17) hx hb dX4_isStuck_13 (by decide) ?_
    exact w_X4_isStuck_b17 l X (1 : Int32) h H locs ls hH (lv_sub hl [] rfl) hf
set_option maxRecDepth 100000 in
set_option maxHeartbeats 4000000 in
theorem c_J6_signum_0f7a4 (l : Launch) (G : GE) (x0 : Int32) (h : PH) (rr : Int32) (hh : PH) (hf : f_J6_signum_0f7a4 G x0 h = some (rr, hh)) : Ct l yJ6_signum_0f7a4 cJ6_signum_0f7a4 1 (some .int) rm_J6_signum_0f7a4 G [.int x0] h (some (.int rr)) hh := by
  refine Ct.of (plainFor_of_name (by decide)) (Nat.le_of_ble_eq_true rfl) ?_
  intro p e s m args below meth c ls X hH hl
  have hl : lv_has ls 1 [(0, .int x0)] := hl
  have X : Cx G p s m args meth c cJ6_signum_0f7a4 1 RJ6 "signum" (some .int) := X
  have hx := X.1
  have hb := X.2.1
  unfold f_J6_signum_0f7a4 at hf
  obtain ⟨H, hHe⟩ : ∃ z, z = s.heap := ⟨_, rfl⟩
  obtain ⟨locs, hLe⟩ : ∃ z, z = ([] : List Loc) := ⟨_, rfl⟩
  rw [← hHe, ← hLe] at hH
  rw [← hHe, ← hLe]
  refine lv_iload_n hx hb dJ6_signum_0f7a4_0 rfl (lv_at hl 0 rfl) ?_
  refine lv_bipush (v := 31) hx hb dJ6_signum_0f7a4_1 (by decide) ?_
  refine lv_ishr hx hb dJ6_signum_0f7a4_3 ?_
  refine lv_iload_n hx hb dJ6_signum_0f7a4_4 rfl (lv_at hl 0 rfl) ?_
  refine lv_ineg hx hb dJ6_signum_0f7a4_5 ?_
  refine lv_bipush (v := 31) hx hb dJ6_signum_0f7a4_6 (by decide) ?_
  refine lv_iushr (v := (((-x0)).toUInt32 >>> (((31 : Int32)).toUInt32 &&& Int32.toUInt32 31)).toInt32) hx hb dJ6_signum_0f7a4_8 rfl ?_
  refine lv_ior hx hb dJ6_signum_0f7a4_9 ?_
  exact p_iret X hH hf (by decide) (by decide) dJ6_signum_0f7a4_10
set_option maxRecDepth 100000 in
set_option maxHeartbeats 4000000 in
theorem w_X4_nextSpin_b62 {G : GE} {p : Program} (l : Launch) {e : Env} {s : State} {m : MethodId} {args : Array Value} {below : List Frame} {meth : Method} {c : Code} {rr : Int32} {hh : PH} (X : Cx G p s m args meth c cX4_nextSpin 6 RX4 "nextSpin" (some .int)) (x2 : Int32) (t0 : Int32) (h : PH) (H : Heap) (locs : List Loc) (ls : Array Slot) (hH : Hx G s h H locs) (hl : lv_has ls 6 [(2, .int x2)]) (hf : f_X4_nextSpin_b62 G x2 t0 h = some (rr, hh)) : W p l e rm_X4_nextSpin s m args below meth c H locs 0 0 (Fq G (some (.int rr)) hh below args s rm_X4_nextSpin.cells rm_X4_nextSpin.slots) (F0 m 62 ls [.int t0]) := by
  have hx := X.1
  have hb := X.2.1
  unfold f_X4_nextSpin_b62 at hf
  refine lv_istore (lv' := [(5, .int t0), (2, .int x2)]) hx hb dX4_nextSpin_62 hl (by decide) rfl (fun ls hl => ?_)
  refine lv_iload hx hb dX4_nextSpin_64 (lv_at hl 0 rfl) ?_
  refine p_if_ne X hf dX4_nextSpin_66 (tgt := 74) (by decide) (fun _ hf => ?_) (fun _ hf => ?_)
  · refine lv_bipush (v := -8) hx hb dX4_nextSpin_74 (by decide) ?_
    refine lv_bipush (v := 8) hx hb dX4_nextSpin_76 (by decide) ?_
    refine lv_iload hx hb dX4_nextSpin_78 (lv_at hl 0 rfl) ?_
    refine p_min X m_726 m_181 m_39 m_182 hl.1 (by decide) (Nat.le_of_ble_eq_true rfl) (by decide) (by decide) dX4_nextSpin_80 ?_
    refine p_max X m_305 m_148 m_39 m_149 hl.1 (by decide) (Nat.le_of_ble_eq_true rfl) (by decide) (by decide) dX4_nextSpin_83 ?_
    exact p_iret X hH hf (by decide) (by decide) dX4_nextSpin_86
  · refine lv_iload_n hx hb dX4_nextSpin_69 rfl (lv_at hl 1 rfl) ?_
    refine p_cSI (As := [.int x2]) (rest := []) X hH hf (fun _ _ e_ => c_J6_signum_0f7a4 l G x2 h _ _ e_) ms_J6_signum_0f7a4 lk_RX4_84 (by decide) rfl hl.1 (Nat.le_of_ble_eq_true rfl) dX4_nextSpin_70 (c2 := 0) (s2 := 0) (by decide) (fun v11 h H locs hH hf => ?_)
    exact p_iret X hH hf (by decide) (by decide) dX4_nextSpin_73
set_option maxRecDepth 100000 in
set_option maxHeartbeats 4000000 in
theorem c_X4_nextSpin (l : Launch) (G : GE) (x0 : Nat) (x1 : Nat) (h : PH) (rr : Int32) (hh : PH) (hf : f_X4_nextSpin G x0 x1 h = some (rr, hh)) : Ct l yX4_nextSpin cX4_nextSpin 6 (some .int) rm_X4_nextSpin G [.ref x0, .ref x1] h (some (.int rr)) hh := by
  refine Ct.of (plainFor_of_name (by decide)) (Nat.le_of_ble_eq_true rfl) ?_
  intro p e s m args below meth c ls X hH hl
  have hl : lv_has ls 6 [(0, .ref x0), (1, .ref x1)] := hl
  have X : Cx G p s m args meth c cX4_nextSpin 6 RX4 "nextSpin" (some .int) := X
  have hx := X.1
  have hb := X.2.1
  unfold f_X4_nextSpin at hf
  obtain ⟨H, hHe⟩ : ∃ z, z = s.heap := ⟨_, rfl⟩
  obtain ⟨locs, hLe⟩ : ∃ z, z = ([] : List Loc) := ⟨_, rfl⟩
  rw [← hHe, ← hLe] at hH
  rw [← hHe, ← hLe]
  refine lv_aload_n hx hb dX4_nextSpin_0 rfl (lv_at hl 0 rfl) ?_
  refine p_getI X hH fg_RX4_19 hf dX4_nextSpin_1 (fun v1 _ hf => ?_)
  refine lv_aload_n hx hb dX4_nextSpin_4 rfl (lv_at hl 1 rfl) ?_
  refine p_getI X hH fg_RX4_80 hf dX4_nextSpin_5 (fun v2 _ hf => ?_)
  refine p_cSI (As := [.int v1, .int v2]) (rest := []) X hH hf (fun _ _ e_ => c_X6_steps l G v1 v2 h _ _ e_) ms_X6_steps lk_RX4_81 (by decide) rfl hl.1 (Nat.le_of_ble_eq_true rfl) dX4_nextSpin_8 (c2 := 0) (s2 := 0) (by decide) (fun v3 h H locs hH hf => ?_)
  refine lv_istore_n (lv' := [(2, .int v3), (0, .ref x0), (1, .ref x1)]) hx hb dX4_nextSpin_11 rfl hl (by decide) rfl (fun ls hl => ?_)
  refine lv_aload_n hx hb dX4_nextSpin_12 rfl (lv_at hl 1 rfl) ?_
  refine p_getI X hH fg_RX4_25 hf dX4_nextSpin_13 (fun v4 _ hf => ?_)
  refine lv_aload_n hx hb dX4_nextSpin_16 rfl (lv_at hl 1 rfl) ?_
  refine p_getR X hH fg_RX4_9 hf dX4_nextSpin_17 (fun v5 _ hf => ?_)
  refine p_getI X hH fg_RX4_45 hf dX4_nextSpin_20 (fun v6 _ hf => ?_)
  refine lv_imul hx hb dX4_nextSpin_23 ?_
  refine lv_iload_n hx hb dX4_nextSpin_24 rfl (lv_at hl 0 rfl) ?_
  refine lv_aload_n hx hb dX4_nextSpin_25 rfl (lv_at hl 1 rfl) ?_
  refine lv_aload_n hx hb dX4_nextSpin_26 rfl (lv_at hl 2 rfl) ?_
  refine p_cVI (As := [.ref x1]) (b := x0) (rest := [.int v3, .int (v4 * v6)]) (ci := 5) X hH rfl hf (fun _ _ e_ => c_X4_windHere l G x0 x1 h _ _ e_) mv_X4_windHere lk_RX4_52 (by decide) rfl hl.1 (Nat.le_of_ble_eq_true rfl) dX4_nextSpin_27 (c2 := 0) (s2 := 0) (by decide) (fun v7 h H locs hH hf => ?_)
  refine lv_imul hx hb dX4_nextSpin_30 ?_
  refine lv_iadd hx hb dX4_nextSpin_31 ?_
  refine lv_istore_n (lv' := [(3, .int ((v4 * v6) + (v3 * v7))), (2, .int v3), (0, .ref x0), (1, .ref x1)]) hx hb dX4_nextSpin_32 rfl hl (by decide) rfl (fun ls hl => ?_)
  refine lv_aload_n hx hb dX4_nextSpin_33 rfl (lv_at hl 2 rfl) ?_
  refine p_getR X hH fg_RX4_9 hf dX4_nextSpin_34 (fun v8 _ hf => ?_)
  refine p_getI X hH fg_RX4_45 hf dX4_nextSpin_37 (fun v9 _ hf => ?_)
  refine lv_iconst (v := 4) hx hb dX4_nextSpin_40 (by decide) ?_
  refine lv_iadd hx hb dX4_nextSpin_41 ?_
  refine lv_aload_n hx hb dX4_nextSpin_42 rfl (lv_at hl 2 rfl) ?_
  refine p_getI X hH fg_RX4_22 hf dX4_nextSpin_43 (fun v10 _ hf => ?_)
  refine lv_iadd hx hb dX4_nextSpin_46 ?_
  refine lv_istore (lv' := [(4, .int ((v9 + (4 : Int32)) + v10)), (3, .int ((v4 * v6) + (v3 * v7))), (2, .int v3), (0, .ref x0), (1, .ref x1)]) hx hb dX4_nextSpin_47 hl (by decide) rfl (fun ls hl => ?_)
  refine lv_iload hx hb dX4_nextSpin_49 (lv_at hl 0 rfl) ?_
  refine p_if_le X hf dX4_nextSpin_51 (tgt := 61) (by decide) (fun _ hf => ?_) (fun _ hf => ?_)
  · refine lv_iconst (v := 0) hx hb dX4_nextSpin_61 (by decide) ?_
    exact w_X4_nextSpin_b62 l X v3 (0 : Int32) h H locs ls hH (lv_sub hl [2] rfl) hf
  · refine lv_iload_n hx hb dX4_nextSpin_54 rfl (lv_at hl 1 rfl) ?_
    refine lv_iload hx hb dX4_nextSpin_55 (lv_at hl 0 rfl) ?_
    refine p_idiv X hf dX4_nextSpin_57 (fun hf => ?_)
    refine lv_goto (tgt := 62) hx hb dX4_nextSpin_58 (by decide) ?_
    exact w_X4_nextSpin_b62 l X v3 (((v4 * v6) + (v3 * v7)) / ((v9 + (4 : Int32)) + v10)) h H locs ls hH (lv_sub hl [2] rfl) hf
set_option maxRecDepth 100000 in
set_option maxHeartbeats 4000000 in
theorem w_J9_floorMod_7cf53_b18 {G : GE} {p : Program} (l : Launch) {e : Env} {s : State} {m : MethodId} {args : Array Value} {below : List Frame} {meth : Method} {c : Code} {rr : Int32} {hh : PH} (X : Cx G p s m args meth c cJ9_floorMod_7cf53 3 RJ9 "floorMod" (some .int)) (x2 : Int32) (h : PH) (H : Heap) (locs : List Loc) (ls : Array Slot) (hH : Hx G s h H locs) (hl : lv_has ls 3 [(2, .int x2)]) (hf : f_J9_floorMod_7cf53_b18 G x2 h = some (rr, hh)) : W p l e rm_J9_floorMod_7cf53 s m args below meth c H locs 0 0 (Fq G (some (.int rr)) hh below args s rm_J9_floorMod_7cf53.cells rm_J9_floorMod_7cf53.slots) (F0 m 18 ls []) := by
  have hx := X.1
  have hb := X.2.1
  unfold f_J9_floorMod_7cf53_b18 at hf
  refine lv_iload_n hx hb dJ9_floorMod_7cf53_18 rfl (lv_at hl 0 rfl) ?_
  exact p_iret X hH hf (by decide) (by decide) dJ9_floorMod_7cf53_19
set_option maxRecDepth 100000 in
set_option maxHeartbeats 4000000 in
theorem c_J9_floorMod_7cf53 (l : Launch) (G : GE) (x0 : Int32) (x1 : Int32) (h : PH) (rr : Int32) (hh : PH) (hf : f_J9_floorMod_7cf53 G x0 x1 h = some (rr, hh)) : Ct l yJ9_floorMod_7cf53 cJ9_floorMod_7cf53 3 (some .int) rm_J9_floorMod_7cf53 G [.int x0, .int x1] h (some (.int rr)) hh := by
  refine Ct.of (by decide +kernel) (Nat.le_of_ble_eq_true rfl) ?_
  intro p e s m args below meth c ls X hH hl
  have hl : lv_has ls 3 [(0, .int x0), (1, .int x1)] := hl
  have X : Cx G p s m args meth c cJ9_floorMod_7cf53 3 RJ9 "floorMod" (some .int) := X
  have hx := X.1
  have hb := X.2.1
  unfold f_J9_floorMod_7cf53 at hf
  obtain ⟨H, hHe⟩ : ∃ z, z = s.heap := ⟨_, rfl⟩
  obtain ⟨locs, hLe⟩ : ∃ z, z = ([] : List Loc) := ⟨_, rfl⟩
  rw [← hHe, ← hLe] at hH
  rw [← hHe, ← hLe]
  refine lv_iload_n hx hb dJ9_floorMod_7cf53_0 rfl (lv_at hl 0 rfl) ?_
  refine lv_iload_n hx hb dJ9_floorMod_7cf53_1 rfl (lv_at hl 1 rfl) ?_
  refine p_irem X hf dJ9_floorMod_7cf53_2 (fun hf => ?_)
  refine lv_istore_n (lv' := [(2, .int (x0 - x0 / x1 * x1)), (0, .int x0), (1, .int x1)]) hx hb dJ9_floorMod_7cf53_3 rfl hl (by decide) rfl (fun ls hl => ?_)
  refine lv_iload_n hx hb dJ9_floorMod_7cf53_4 rfl (lv_at hl 1 rfl) ?_
  refine lv_iload_n hx hb dJ9_floorMod_7cf53_5 rfl (lv_at hl 2 rfl) ?_
  refine lv_ixor hx hb dJ9_floorMod_7cf53_6 ?_
  refine p_if_ge X hf dJ9_floorMod_7cf53_7 (tgt := 18) (by decide) (fun _ hf => ?_) (fun _ hf => ?_)
  · exact w_J9_floorMod_7cf53_b18 l X (x0 - x0 / x1 * x1) h H locs ls hH (lv_sub hl [0] rfl) hf
  · refine lv_iload_n hx hb dJ9_floorMod_7cf53_10 rfl (lv_at hl 0 rfl) ?_
    refine p_if_eq X hf dJ9_floorMod_7cf53_11 (tgt := 18) (by decide) (fun _ hf => ?_) (fun _ hf => ?_)
    · exact w_J9_floorMod_7cf53_b18 l X (x0 - x0 / x1 * x1) h H locs ls hH (lv_sub hl [0] rfl) hf
    · refine lv_iload_n hx hb dJ9_floorMod_7cf53_14 rfl (lv_at hl 0 rfl) ?_
      refine lv_iload_n hx hb dJ9_floorMod_7cf53_15 rfl (lv_at hl 2 rfl) ?_
      refine lv_iadd hx hb dJ9_floorMod_7cf53_16 ?_
      exact p_iret X hH hf (by decide) (by decide) dJ9_floorMod_7cf53_17
set_option maxRecDepth 100000 in
set_option maxHeartbeats 4000000 in
theorem w_X4_blow_b68 {G : GE} {p : Program} (l : Launch) {e : Env} {s : State} {m : MethodId} {args : Array Value} {below : List Frame} {meth : Method} {c : Code} {rr : Unit} {hh : PH} (X : Cx G p s m args meth c cX4_blow 2 RX4 "blow" none)  (h : PH) (H : Heap) (locs : List Loc) (ls : Array Slot) (hH : Hx G s h H locs) (hl : lv_has ls 2 []) (hf : f_X4_blow_b68 G  h = some (rr, hh)) : W p l e rm_X4_blow s m args below meth c H locs 0 0 (Fq G none hh below args s rm_X4_blow.cells rm_X4_blow.slots) (F0 m 68 ls []) := by
  have hx := X.1
  have hb := X.2.1
  unfold f_X4_blow_b68 at hf
  exact p_vret X hH hf (by decide) (by decide) dX4_blow_68
set_option maxRecDepth 100000 in
set_option maxHeartbeats 4000000 in
theorem c_X4_blow (l : Launch) (G : GE) (x0 : Nat) (x1 : Nat) (h : PH) (rr : Unit) (hh : PH) (hf : f_X4_blow G x0 x1 h = some (rr, hh)) : Ct l yX4_blow cX4_blow 2 none rm_X4_blow G [.ref x0, .ref x1] h none hh := by
  refine Ct.of (plainFor_of_name (by decide)) (Nat.le_of_ble_eq_true rfl) ?_
  intro p e s m args below meth c ls X hH hl
  have hl : lv_has ls 2 [(0, .ref x0), (1, .ref x1)] := hl
  have X : Cx G p s m args meth c cX4_blow 2 RX4 "blow" none := X
  have hx := X.1
  have hb := X.2.1
  unfold f_X4_blow at hf
  obtain ⟨H, hHe⟩ : ∃ z, z = s.heap := ⟨_, rfl⟩
  obtain ⟨locs, hLe⟩ : ∃ z, z = ([] : List Loc) := ⟨_, rfl⟩
  rw [← hHe, ← hLe] at hH
  rw [← hHe, ← hLe]
  refine lv_aload_n hx hb dX4_blow_0 rfl (lv_at hl 0 rfl) ?_
  refine p_getI X hH fg_RX4_28 hf dX4_blow_1 (fun v1 _ hf => ?_)
  refine p_if_le X hf dX4_blow_4 (tgt := 25) (by decide) (fun _ hf => ?_) (fun _ hf => ?_)
  · refine lv_aload_n hx hb dX4_blow_25 rfl (lv_at hl 0 rfl) ?_
    refine lv_aload_n hx hb dX4_blow_26 rfl (lv_at hl 1 rfl) ?_
    refine p_cVI (As := [.ref x1]) (b := x0) (rest := []) (ci := 5) X hH rfl hf (fun _ _ e_ => c_X4_isStuck l G x0 x1 h _ _ e_) mv_X4_isStuck lk_RX4_70 (by decide) rfl hl.1 (Nat.le_of_ble_eq_true rfl) dX4_blow_27 (c2 := 0) (s2 := 0) (by decide) (fun v2 h H locs hH hf => ?_)
    refine p_if_eq X hf dX4_blow_30 (tgt := 41) (by decide) (fun _ hf => ?_) (fun _ hf => ?_)
    · refine lv_aload_n hx hb dX4_blow_41 rfl (lv_at hl 0 rfl) ?_
      refine lv_aload_n hx hb dX4_blow_42 rfl (lv_at hl 0 rfl) ?_
      refine lv_aload_n hx hb dX4_blow_43 rfl (lv_at hl 1 rfl) ?_
      refine p_cVI (As := [.ref x1]) (b := x0) (rest := [.ref x0]) (ci := 5) X hH rfl hf (fun _ _ e_ => c_X4_nextSpin l G x0 x1 h _ _ e_) mv_X4_nextSpin lk_RX4_74 (by decide) rfl hl.1 (Nat.le_of_ble_eq_true rfl) dX4_blow_44 (c2 := 0) (s2 := 0) (by decide) (fun v3 h H locs hH hf => ?_)
      refine p_put X hH fp_RX4_25 rfl rfl hf dX4_blow_47 (fun h H locs hH hf => ?_)
      refine lv_aload_n hx hb dX4_blow_50 rfl (lv_at hl 0 rfl) ?_
      refine lv_aload_n hx hb dX4_blow_51 rfl (lv_at hl 0 rfl) ?_
      refine p_getI X hH fg_RX4_19 hf dX4_blow_52 (fun v4 _ hf => ?_)
      refine lv_aload_n hx hb dX4_blow_55 rfl (lv_at hl 0 rfl) ?_
      refine p_getI X hH fg_RX4_25 hf dX4_blow_56 (fun v5 _ hf => ?_)
      refine lv_iadd hx hb dX4_blow_59 ?_
      refine lv_bipush (v := 16) hx hb dX4_blow_60 (by decide) ?_
      refine p_cSI (As := [.int (v4 + v5), .int (16 : Int32)]) (rest := [.ref x0]) X hH hf (fun _ _ e_ => c_J9_floorMod_7cf53 l G (v4 + v5) (16 : Int32) h _ _ e_) ms_J9_floorMod_7cf53 lk_RX4_77 (by decide) rfl hl.1 (Nat.le_of_ble_eq_true rfl) dX4_blow_62 (c2 := 0) (s2 := 0) (by decide) (fun v6 h H locs hH hf => ?_)
      refine p_put X hH fp_RX4_19 rfl rfl hf dX4_blow_65 (fun h H locs hH hf => ?_)
      exact w_X4_blow_b68 l X  h H locs ls hH (lv_sub hl [] rfl) hf
    · refine lv_aload_n hx hb dX4_blow_33 rfl (lv_at hl 0 rfl) ?_
      refine lv_iconst (v := 0) hx hb dX4_blow_34 (by decide) ?_
      refine p_put X hH fp_RX4_25 rfl rfl hf dX4_blow_35 (fun h H locs hH hf => ?_)
      refine lv_goto (tgt := 68) hx hb dX4_blow_38 (by decide) ?_
      exact w_X4_blow_b68 l X  h H locs ls hH (lv_sub hl [] rfl) hf
  · refine lv_aload_n hx hb dX4_blow_7 rfl (lv_at hl 0 rfl) ?_
    refine lv_dup hx hb dX4_blow_8 rfl ?_
    refine p_getI X hH fg_RX4_28 hf dX4_blow_9 (fun v7 _ hf => ?_)
    refine lv_iconst (v := 1) hx hb dX4_blow_12 (by decide) ?_
    refine lv_isub hx hb dX4_blow_13 ?_
    refine p_put X hH fp_RX4_28 rfl rfl hf dX4_blow_14 (fun h H locs hH hf => ?_)
    refine lv_aload_n hx hb dX4_blow_17 rfl (lv_at hl 0 rfl) ?_
    refine lv_iconst (v := 0) hx hb dX4_blow_18 (by decide) ?_
    refine p_put X hH fp_RX4_25 rfl rfl hf dX4_blow_19 (fun h H locs hH hf => ?_)
    refine lv_goto (tgt := 68) hx hb dX4_blow_22 (by decide) ?_
    exact w_X4_blow_b68 l X  h H locs ls hH (lv_sub hl [] rfl) hf
set_option maxRecDepth 100000 in
set_option maxHeartbeats 4000000 in
theorem w_X3_blowOnAll_b2 {G : GE} {p : Program} (l : Launch) {e : Env} {s : State} {m : MethodId} {args : Array Value} {below : List Frame} {meth : Method} {c : Code} {rr : Unit} {hh : PH} (X : Cx G p s m args meth c cX3_blowOnAll 3 RX3 "blowOnAll" none) : ∀ (n : Nat) (x0 : Nat) (x1 : Nat) (x2 : Int32) (h : PH) (H : Heap) (locs : List Loc) (ls : Array Slot) (hH : Hx G s h H locs) (hl : lv_has ls 3 [(0, .ref x0), (1, .ref x1), (2, .int x2)]) (hf : f_X3_blowOnAll_b2 G n x0 x1 x2 h = some (rr, hh)), W p l e rm_X3_blowOnAll s m args below meth c H locs 0 0 (Fq G none hh below args s rm_X3_blowOnAll.cells rm_X3_blowOnAll.slots) (F0 m 2 ls []) := by
  have hx := X.1
  have hb := X.2.1
  intro n
  induction n with
  | zero =>
    intro x0 x1 x2 h H locs ls hH hl hf
    have hf : (none : Option (Unit × PH)) = some (rr, hh) := hf
    cases hf
  | succ n ih =>
    intro x0 x1 x2 h H locs ls hH hl hf
    have hf : f_X3_blowOnAll_b2_body G (f_X3_blowOnAll_b2 G n) x0 x1 x2 h = some (rr, hh) := hf
    generalize f_X3_blowOnAll_b2 G n = k2 at hf ih
    have ik2 := ih
    unfold f_X3_blowOnAll_b2_body at hf
    refine lv_iload_n hx hb dX3_blowOnAll_2 rfl (lv_at hl 2 rfl) ?_
    refine lv_aload_n hx hb dX3_blowOnAll_3 rfl (lv_at hl 0 rfl) ?_
    refine p_getR X hH fg_RX3_12 hf dX3_blowOnAll_4 (fun v1 _ hf => ?_)
    refine p_cVI (As := []) (b := v1) (rest := [.int x2]) (ci := 0) X hH rfl hf (fun _ _ e_ => c_Jx4a65c_size_8abf5 l G v1 h _ _ e_) mv_Jx4a65c_size_8abf5 lk_RX3_18 (by decide) rfl hl.1 (Nat.le_of_ble_eq_true rfl) dX3_blowOnAll_7 (c2 := 0) (s2 := 0) (by decide) (fun v2 h H locs hH hf => ?_)
    refine p_icmp_ge X hf dX3_blowOnAll_10 (tgt := 34) (by decide) (fun _ hf => ?_) (fun _ hf => ?_)
    · exact p_vret X hH hf (by decide) (by decide) dX3_blowOnAll_34
    · refine lv_aload_n hx hb dX3_blowOnAll_13 rfl (lv_at hl 0 rfl) ?_
      refine p_getR X hH fg_RX3_12 hf dX3_blowOnAll_14 (fun v3 _ hf => ?_)
      refine lv_iload_n hx hb dX3_blowOnAll_17 rfl (lv_at hl 2 rfl) ?_
      refine p_cVR (As := [.int x2]) (b := v3) (rest := []) (ci := 0) X hH rfl hf (fun _ _ e_ => c_Jx4a65c_get_915e3 l G v3 x2 h _ _ e_) mv_Jx4a65c_get_915e3 lk_RX3_22 (by decide) rfl hl.1 (Nat.le_of_ble_eq_true rfl) dX3_blowOnAll_18 (c2 := 0) (s2 := 0) (by decide) (fun v4 h H locs hH hf => ?_)
      refine p_cast X hH (ci := 5) rfl m_243 hf dX3_blowOnAll_21 (fun _ hf => ?_)
      refine lv_aload_n hx hb dX3_blowOnAll_24 rfl (lv_at hl 1 rfl) ?_
      refine p_cVV (As := [.ref x1]) (b := v4) (rest := []) (ci := 5) X hH rfl hf (fun _ _ e_ => c_X4_blow l G v4 x1 h _ _ e_) mv_X4_blow lk_RX3_52 (by decide) rfl hl.1 (Nat.le_of_ble_eq_true rfl) dX3_blowOnAll_25 (c2 := 0) (s2 := 0) (by decide) (fun _ h H locs hH hf => ?_)
      refine lv_iinc (v := (x2 + (1 : Int32))) (lv' := [(2, .int (x2 + (1 : Int32))), (0, .ref x0), (1, .ref x1)]) hx hb dX3_blowOnAll_28 hl (k := 2) rfl rfl (by decide) rfl (fun ls hl => ?_)
      refine lv_goto (tgt := 2) hx hb dX3_blowOnAll_31 (by decide) ?_
      exact ik2 x0 x1 (x2 + (1 : Int32)) h H locs ls hH (lv_sub hl [1, 2, 0] rfl) hf
set_option maxRecDepth 100000 in
set_option maxHeartbeats 4000000 in
theorem c_X3_blowOnAll (l : Launch) (G : GE) (x0 : Nat) (x1 : Nat) (h : PH) (rr : Unit) (hh : PH) (hf : f_X3_blowOnAll G x0 x1 h = some (rr, hh)) : Ct l yX3_blowOnAll cX3_blowOnAll 3 none rm_X3_blowOnAll G [.ref x0, .ref x1] h none hh := by
  refine Ct.of (plainFor_of_name (by decide)) (Nat.le_of_ble_eq_true rfl) ?_
  intro p e s m args below meth c ls X hH hl
  have hl : lv_has ls 3 [(0, .ref x0), (1, .ref x1)] := hl
  have X : Cx G p s m args meth c cX3_blowOnAll 3 RX3 "blowOnAll" none := X
  have hx := X.1
  have hb := X.2.1
  unfold f_X3_blowOnAll at hf
  obtain ⟨H, hHe⟩ : ∃ z, z = s.heap := ⟨_, rfl⟩
  obtain ⟨locs, hLe⟩ : ∃ z, z = ([] : List Loc) := ⟨_, rfl⟩
  rw [← hHe, ← hLe] at hH
  rw [← hHe, ← hLe]
  refine lv_iconst (v := 0) hx hb dX3_blowOnAll_0 (by decide) ?_
  refine lv_istore_n (lv' := [(2, .int (0 : Int32)), (0, .ref x0), (1, .ref x1)]) hx hb dX3_blowOnAll_1 rfl hl (by decide) rfl (fun ls hl => ?_)
  exact w_X3_blowOnAll_b2 l X LF x0 x1 (0 : Int32) h H locs ls hH (lv_sub hl [1, 2, 0] rfl) hf
set_option maxRecDepth 100000 in
set_option maxHeartbeats 4000000 in
theorem w_X4_takeRain_b35 {G : GE} {p : Program} (l : Launch) {e : Env} {s : State} {m : MethodId} {args : Array Value} {below : List Frame} {meth : Method} {c : Code} {rr : Unit} {hh : PH} (X : Cx G p s m args meth c cX4_takeRain 1 RX4 "takeRain" none)  (h : PH) (H : Heap) (locs : List Loc) (ls : Array Slot) (hH : Hx G s h H locs) (hl : lv_has ls 1 []) (hf : f_X4_takeRain_b35 G  h = some (rr, hh)) : W p l e rm_X4_takeRain s m args below meth c H locs 0 0 (Fq G none hh below args s rm_X4_takeRain.cells rm_X4_takeRain.slots) (F0 m 35 ls []) := by
  have hx := X.1
  have hb := X.2.1
  unfold f_X4_takeRain_b35 at hf
  exact p_vret X hH hf (by decide) (by decide) dX4_takeRain_35
set_option maxRecDepth 100000 in
set_option maxHeartbeats 4000000 in
theorem c_X4_takeRain (l : Launch) (G : GE) (x0 : Nat) (h : PH) (rr : Unit) (hh : PH) (hf : f_X4_takeRain G x0 h = some (rr, hh)) : Ct l yX4_takeRain cX4_takeRain 1 none rm_X4_takeRain G [.ref x0] h none hh := by
  refine Ct.of (plainFor_of_name (by decide)) (Nat.le_of_ble_eq_true rfl) ?_
  intro p e s m args below meth c ls X hH hl
  have hl : lv_has ls 1 [(0, .ref x0)] := hl
  have X : Cx G p s m args meth c cX4_takeRain 1 RX4 "takeRain" none := X
  have hx := X.1
  have hb := X.2.1
  unfold f_X4_takeRain at hf
  obtain ⟨H, hHe⟩ : ∃ z, z = s.heap := ⟨_, rfl⟩
  obtain ⟨locs, hLe⟩ : ∃ z, z = ([] : List Loc) := ⟨_, rfl⟩
  rw [← hHe, ← hLe] at hH
  rw [← hHe, ← hLe]
  refine lv_aload_n hx hb dX4_takeRain_0 rfl (lv_at hl 0 rfl) ?_
  refine lv_dup hx hb dX4_takeRain_1 rfl ?_
  refine p_getI X hH fg_RX4_31 hf dX4_takeRain_2 (fun v1 _ hf => ?_)
  refine lv_iconst (v := 1) hx hb dX4_takeRain_5 (by decide) ?_
  refine lv_iadd hx hb dX4_takeRain_6 ?_
  refine p_put X hH fp_RX4_31 rfl rfl hf dX4_takeRain_7 (fun h H locs hH hf => ?_)
  refine lv_aload_n hx hb dX4_takeRain_10 rfl (lv_at hl 0 rfl) ?_
  refine p_getI X hH fg_RX4_31 hf dX4_takeRain_11 (fun v2 _ hf => ?_)
  refine lv_iconst (v := 2) hx hb dX4_takeRain_14 (by decide) ?_
  refine lv_irem hx hb dX4_takeRain_15 (by decide) ?_
  refine lv_iconst (v := 1) hx hb dX4_takeRain_16 (by decide) ?_
  refine p_icmp_ne X hf dX4_takeRain_17 (tgt := 35) (by decide) (fun _ hf => ?_) (fun _ hf => ?_)
  · exact w_X4_takeRain_b35 l X  h H locs ls hH (lv_sub hl [] rfl) hf
  · refine lv_aload_n hx hb dX4_takeRain_20 rfl (lv_at hl 0 rfl) ?_
    refine lv_bipush (v := 9) hx hb dX4_takeRain_21 (by decide) ?_
    refine lv_aload_n hx hb dX4_takeRain_23 rfl (lv_at hl 0 rfl) ?_
    refine p_getI X hH fg_RX4_22 hf dX4_takeRain_24 (fun v3 _ hf => ?_)
    refine lv_iconst (v := 1) hx hb dX4_takeRain_27 (by decide) ?_
    refine lv_iadd hx hb dX4_takeRain_28 ?_
    refine p_min X m_726 m_181 m_39 m_182 hl.1 (by decide) (Nat.le_of_ble_eq_true rfl) (by decide) (by decide) dX4_takeRain_29 ?_
    refine p_put X hH fp_RX4_22 rfl rfl hf dX4_takeRain_32 (fun h H locs hH hf => ?_)
    exact w_X4_takeRain_b35 l X  h H locs ls hH (lv_sub hl [] rfl) hf
