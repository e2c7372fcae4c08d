/-! ===== walks (printed by program) ===== -/
set_option maxRecDepth 100000 in
set_option maxHeartbeats 4000000 in
theorem w_X3_rainOnAll_b2 {G : GE} {p : Program} (l : Launch) {e : Env} {s : State} {m : MethodId} {args : Array Value} {below : List Frame} {meth : Method} {c : Code} {rr : Unit} {hh : PH} (X : Cx G p s m args meth c cX3_rainOnAll 2 RX3 "rainOnAll" none) : ∀ (n : Nat) (x0 : Nat) (x1 : Int32) (h : PH) (H : Heap) (locs : List Loc) (ls : Array Slot) (hH : Hx G s h H locs) (hl : lv_has ls 2 [(0, .ref x0), (1, .int x1)]) (hf : f_X3_rainOnAll_b2 G n x0 x1 h = some (rr, hh)), W p l e rm_X3_rainOnAll s m args below meth c H locs 0 0 (Fq G none hh below args s rm_X3_rainOnAll.cells rm_X3_rainOnAll.slots) (F0 m 2 ls []) := by
  have hx := X.1
  have hb := X.2.1
  intro n
  induction n with
  | zero =>
    intro x0 x1 h H locs ls hH hl hf
    have hf : (none : Option (Unit × PH)) = some (rr, hh) := hf
    cases hf
  | succ n ih =>
    intro x0 x1 h H locs ls hH hl hf
    have hf : f_X3_rainOnAll_b2_body G (f_X3_rainOnAll_b2 G n) x0 x1 h = some (rr, hh) := hf
    generalize f_X3_rainOnAll_b2 G n = k2 at hf ih
    have ik2 := ih
    unfold f_X3_rainOnAll_b2_body at hf
    refine lv_iload_n hx hb dX3_rainOnAll_2 rfl (lv_at hl 1 rfl) ?_
    refine lv_aload_n hx hb dX3_rainOnAll_3 rfl (lv_at hl 0 rfl) ?_
    refine p_getR X hH fg_RX3_12 hf dX3_rainOnAll_4 (fun v1 _ hf => ?_)
    refine p_cVI (As := []) (b := v1) (rest := [.int x1]) (ci := 0) X hH rfl hf (fun _ _ e_ => c_Jx4a65c_size_8abf5 l G v1 h _ _ e_) mv_Jx4a65c_size_8abf5 lk_RX3_18 (by decide) rfl hl.1 (Nat.le_of_ble_eq_true rfl) dX3_rainOnAll_7 (c2 := 0) (s2 := 0) (by decide) (fun v2 h H locs hH hf => ?_)
    refine p_icmp_ge X hf dX3_rainOnAll_10 (tgt := 33) (by decide) (fun _ hf => ?_) (fun _ hf => ?_)
    · exact p_vret X hH hf (by decide) (by decide) dX3_rainOnAll_33
    · refine lv_aload_n hx hb dX3_rainOnAll_13 rfl (lv_at hl 0 rfl) ?_
      refine p_getR X hH fg_RX3_12 hf dX3_rainOnAll_14 (fun v3 _ hf => ?_)
      refine lv_iload_n hx hb dX3_rainOnAll_17 rfl (lv_at hl 1 rfl) ?_
      refine p_cVR (As := [.int x1]) (b := v3) (rest := []) (ci := 0) X hH rfl hf (fun _ _ e_ => c_Jx4a65c_get_915e3 l G v3 x1 h _ _ e_) mv_Jx4a65c_get_915e3 lk_RX3_22 (by decide) rfl hl.1 (Nat.le_of_ble_eq_true rfl) dX3_rainOnAll_18 (c2 := 0) (s2 := 0) (by decide) (fun v4 h H locs hH hf => ?_)
      refine p_cast X hH (ci := 5) rfl m_243 hf dX3_rainOnAll_21 (fun _ hf => ?_)
      refine p_cVV (As := []) (b := v4) (rest := []) (ci := 5) X hH rfl hf (fun _ _ e_ => c_X4_takeRain l G v4 h _ _ e_) mv_X4_takeRain lk_RX3_56 (by decide) rfl hl.1 (Nat.le_of_ble_eq_true rfl) dX3_rainOnAll_24 (c2 := 0) (s2 := 0) (by decide) (fun _ h H locs hH hf => ?_)
      refine lv_iinc (v := (x1 + (1 : Int32))) (lv' := [(1, .int (x1 + (1 : Int32))), (0, .ref x0)]) hx hb dX3_rainOnAll_27 hl (k := 1) rfl rfl (by decide) rfl (fun ls hl => ?_)
      refine lv_goto (tgt := 2) hx hb dX3_rainOnAll_30 (by decide) ?_
      exact ik2 x0 (x1 + (1 : Int32)) h H locs ls hH (lv_sub hl [1, 0] rfl) hf
set_option maxRecDepth 100000 in
set_option maxHeartbeats 4000000 in
theorem c_X3_rainOnAll (l : Launch) (G : GE) (x0 : Nat) (h : PH) (rr : Unit) (hh : PH) (hf : f_X3_rainOnAll G x0 h = some (rr, hh)) : Ct l yX3_rainOnAll cX3_rainOnAll 2 none rm_X3_rainOnAll G [.ref x0] h none hh := by
  refine Ct.of (plainFor_of_name (by decide)) (Nat.le_of_ble_eq_true rfl) ?_
  intro p e s m args below meth c ls X hH hl
  have hl : lv_has ls 2 [(0, .ref x0)] := hl
  have X : Cx G p s m args meth c cX3_rainOnAll 2 RX3 "rainOnAll" none := X
  have hx := X.1
  have hb := X.2.1
  unfold f_X3_rainOnAll at hf
  obtain ⟨H, hHe⟩ : ∃ z, z = s.heap := ⟨_, rfl⟩
  obtain ⟨locs, hLe⟩ : ∃ z, z = ([] : List Loc) := ⟨_, rfl⟩
  rw [← hHe, ← hLe] at hH
  rw [← hHe, ← hLe]
  refine lv_iconst (v := 0) hx hb dX3_rainOnAll_0 (by decide) ?_
  refine lv_istore_n (lv' := [(1, .int (0 : Int32)), (0, .ref x0)]) hx hb dX3_rainOnAll_1 rfl hl (by decide) rfl (fun ls hl => ?_)
  exact w_X3_rainOnAll_b2 l X LF x0 (0 : Int32) h H locs ls hH (lv_sub hl [1, 0] rfl) hf
set_option maxRecDepth 100000 in
set_option maxHeartbeats 4000000 in
theorem c_X4_takeOil (l : Launch) (G : GE) (x0 : Nat) (h : PH) (rr : Unit) (hh : PH) (hf : f_X4_takeOil G x0 h = some (rr, hh)) : Ct l yX4_takeOil cX4_takeOil 1 none rm_X4_takeOil G [.ref x0] h none hh := by
  refine Ct.of (plainFor_of_name (by decide)) (Nat.le_of_ble_eq_true rfl) ?_
  intro p e s m args below meth c ls X hH hl
  have hl : lv_has ls 1 [(0, .ref x0)] := hl
  have X : Cx G p s m args meth c cX4_takeOil 1 RX4 "takeOil" none := X
  have hx := X.1
  have hb := X.2.1
  unfold f_X4_takeOil at hf
  obtain ⟨H, hHe⟩ : ∃ z, z = s.heap := ⟨_, rfl⟩
  obtain ⟨locs, hLe⟩ : ∃ z, z = ([] : List Loc) := ⟨_, rfl⟩
  rw [← hHe, ← hLe] at hH
  rw [← hHe, ← hLe]
  refine lv_aload_n hx hb dX4_takeOil_0 rfl (lv_at hl 0 rfl) ?_
  refine lv_iconst (v := 0) hx hb dX4_takeOil_1 (by decide) ?_
  refine p_put X hH fp_RX4_22 rfl rfl hf dX4_takeOil_2 (fun h H locs hH hf => ?_)
  refine lv_aload_n hx hb dX4_takeOil_5 rfl (lv_at hl 0 rfl) ?_
  refine lv_iconst (v := 0) hx hb dX4_takeOil_6 (by decide) ?_
  refine p_put X hH fp_RX4_31 rfl rfl hf dX4_takeOil_7 (fun h H locs hH hf => ?_)
  exact p_vret X hH hf (by decide) (by decide) dX4_takeOil_10
set_option maxRecDepth 100000 in
set_option maxHeartbeats 4000000 in
theorem w_X4_takeEffect_b66 {G : GE} {p : Program} (l : Launch) {e : Env} {s : State} {m : MethodId} {args : Array Value} {below : List Frame} {meth : Method} {c : Code} {rr : Unit} {hh : PH} (X : Cx G p s m args meth c cX4_takeEffect 3 RX4 "takeEffect" none)  (h : PH) (H : Heap) (locs : List Loc) (ls : Array Slot) (hH : Hx G s h H locs) (hl : lv_has ls 3 []) (hf : f_X4_takeEffect_b66 G  h = some (rr, hh)) : W p l e rm_X4_takeEffect s m args below meth c H locs 0 0 (Fq G none hh below args s rm_X4_takeEffect.cells rm_X4_takeEffect.slots) (F0 m 66 ls []) := by
  have hx := X.1
  have hb := X.2.1
  unfold f_X4_takeEffect_b66 at hf
  exact p_vret X hH hf (by decide) (by decide) dX4_takeEffect_66
set_option maxRecDepth 100000 in
set_option maxHeartbeats 4000000 in
theorem w_X4_takeEffect_b42 {G : GE} {p : Program} (l : Launch) {e : Env} {s : State} {m : MethodId} {args : Array Value} {below : List Frame} {meth : Method} {c : Code} {rr : Unit} {hh : PH} (X : Cx G p s m args meth c cX4_takeEffect 3 RX4 "takeEffect" none) (x0 : Nat) (x1 : Int32) (x2 : Int32) (h : PH) (H : Heap) (locs : List Loc) (ls : Array Slot) (hH : Hx G s h H locs) (hl : lv_has ls 3 [(0, .ref x0), (1, .int x1), (2, .int x2)]) (hf : f_X4_takeEffect_b42 G x0 x1 x2 h = some (rr, hh)) : W p l e rm_X4_takeEffect s m args below meth c H locs 0 0 (Fq G none hh below args s rm_X4_takeEffect.cells rm_X4_takeEffect.slots) (F0 m 42 ls []) := by
  have hx := X.1
  have hb := X.2.1
  unfold f_X4_takeEffect_b42 at hf
  refine lv_iload_n hx hb dX4_takeEffect_42 rfl (lv_at hl 1 rfl) ?_
  refine lv_iconst (v := 3) hx hb dX4_takeEffect_43 (by decide) ?_
  refine p_icmp_ne X hf dX4_takeEffect_44 (tgt := 66) (by decide) (fun _ hf => ?_) (fun _ hf => ?_)
  · exact w_X4_takeEffect_b66 l X  h H locs ls hH (lv_sub hl [] rfl) hf
  · refine lv_aload_n hx hb dX4_takeEffect_47 rfl (lv_at hl 0 rfl) ?_
    refine lv_iconst (v := 0) hx hb dX4_takeEffect_48 (by decide) ?_
    refine lv_bipush (v := 9) hx hb dX4_takeEffect_49 (by decide) ?_
    refine lv_aload_n hx hb dX4_takeEffect_51 rfl (lv_at hl 0 rfl) ?_
    refine p_getI X hH fg_RX4_15 hf dX4_takeEffect_52 (fun v2 _ hf => ?_)
    refine lv_iload_n hx hb dX4_takeEffect_55 rfl (lv_at hl 2 rfl) ?_
    refine lv_iadd hx hb dX4_takeEffect_56 ?_
    refine p_min X m_726 m_181 m_39 m_182 hl.1 (by decide) (Nat.le_of_ble_eq_true rfl) (by decide) (by decide) dX4_takeEffect_57 ?_
    refine p_max X m_305 m_148 m_39 m_149 hl.1 (by decide) (Nat.le_of_ble_eq_true rfl) (by decide) (by decide) dX4_takeEffect_60 ?_
    refine p_put X hH fp_RX4_15 rfl rfl hf dX4_takeEffect_63 (fun h H locs hH hf => ?_)
    exact w_X4_takeEffect_b66 l X  h H locs ls hH (lv_sub hl [] rfl) hf
set_option maxRecDepth 100000 in
set_option maxHeartbeats 4000000 in
theorem w_X4_takeEffect_b17 {G : GE} {p : Program} (l : Launch) {e : Env} {s : State} {m : MethodId} {args : Array Value} {below : List Frame} {meth : Method} {c : Code} {rr : Unit} {hh : PH} (X : Cx G p s m args meth c cX4_takeEffect 3 RX4 "takeEffect" none) (x0 : Nat) (x1 : Int32) (x2 : Int32) (h : PH) (H : Heap) (locs : List Loc) (ls : Array Slot) (hH : Hx G s h H locs) (hl : lv_has ls 3 [(0, .ref x0), (1, .int x1), (2, .int x2)]) (hf : f_X4_takeEffect_b17 G x0 x1 x2 h = some (rr, hh)) : W p l e rm_X4_takeEffect s m args below meth c H locs 0 0 (Fq G none hh below args s rm_X4_takeEffect.cells rm_X4_takeEffect.slots) (F0 m 17 ls []) := by
  have hx := X.1
  have hb := X.2.1
  unfold f_X4_takeEffect_b17 at hf
  refine lv_iload_n hx hb dX4_takeEffect_17 rfl (lv_at hl 1 rfl) ?_
  refine lv_iconst (v := 2) hx hb dX4_takeEffect_18 (by decide) ?_
  refine p_icmp_ne X hf dX4_takeEffect_19 (tgt := 42) (by decide) (fun _ hf => ?_) (fun _ hf => ?_)
  · exact w_X4_takeEffect_b42 l X x0 x1 x2 h H locs ls hH (lv_sub hl [0, 1, 2] rfl) hf
  · refine lv_iload_n hx hb dX4_takeEffect_22 rfl (lv_at hl 2 rfl) ?_
    refine lv_iconst (v := -1) hx hb dX4_takeEffect_23 (by decide) ?_
    refine p_icmp_ne X hf dX4_takeEffect_24 (tgt := 42) (by decide) (fun _ hf => ?_) (fun _ hf => ?_)
    · exact w_X4_takeEffect_b42 l X x0 x1 x2 h H locs ls hH (lv_sub hl [0, 1, 2] rfl) hf
    · refine lv_aload_n hx hb dX4_takeEffect_27 rfl (lv_at hl 0 rfl) ?_
      refine lv_aload_n hx hb dX4_takeEffect_28 rfl (lv_at hl 0 rfl) ?_
      refine p_getI X hH fg_RX4_28 hf dX4_takeEffect_29 (fun v1 _ hf => ?_)
      refine lv_iconst (v := 4) hx hb dX4_takeEffect_32 (by decide) ?_
      refine p_max X m_305 m_148 m_39 m_149 hl.1 (by decide) (Nat.le_of_ble_eq_true rfl) (by decide) (by decide) dX4_takeEffect_33 ?_
      refine p_put X hH fp_RX4_28 rfl rfl hf dX4_takeEffect_36 (fun h H locs hH hf => ?_)
      refine lv_goto (tgt := 66) hx hb dX4_takeEffect_39 (by decide) ?_
      exact w_X4_takeEffect_b66 l X  h H locs ls hH (lv_sub hl [] rfl) hf
set_option maxRecDepth 100000 in
set_option maxHeartbeats 4000000 in
theorem c_X4_takeEffect (l : Launch) (G : GE) (x0 : Nat) (x1 : Int32) (x2 : Int32) (h : PH) (rr : Unit) (hh : PH) (hf : f_X4_takeEffect G x0 x1 x2 h = some (rr, hh)) : Ct l yX4_takeEffect cX4_takeEffect 3 none rm_X4_takeEffect G [.ref x0, .int x1, .int x2] h none hh := by
  refine Ct.of (plainFor_of_name (by decide)) (Nat.le_of_ble_eq_true rfl) ?_
  intro p e s m args below meth c ls X hH hl
  have hl : lv_has ls 3 [(0, .ref x0), (1, .int x1), (2, .int x2)] := hl
  have X : Cx G p s m args meth c cX4_takeEffect 3 RX4 "takeEffect" none := X
  have hx := X.1
  have hb := X.2.1
  unfold f_X4_takeEffect at hf
  obtain ⟨H, hHe⟩ : ∃ z, z = s.heap := ⟨_, rfl⟩
  obtain ⟨locs, hLe⟩ : ∃ z, z = ([] : List Loc) := ⟨_, rfl⟩
  rw [← hHe, ← hLe] at hH
  rw [← hHe, ← hLe]
  refine lv_iload_n hx hb dX4_takeEffect_0 rfl (lv_at hl 1 rfl) ?_
  refine lv_iconst (v := 1) hx hb dX4_takeEffect_1 (by decide) ?_
  refine p_icmp_ne X hf dX4_takeEffect_2 (tgt := 17) (by decide) (fun _ hf => ?_) (fun _ hf => ?_)
  · exact w_X4_takeEffect_b17 l X x0 x1 x2 h H locs ls hH (lv_sub hl [0, 1, 2] rfl) hf
  · refine lv_iload_n hx hb dX4_takeEffect_5 rfl (lv_at hl 2 rfl) ?_
    refine lv_iconst (v := 1) hx hb dX4_takeEffect_6 (by decide) ?_
    refine p_icmp_ne X hf dX4_takeEffect_7 (tgt := 17) (by decide) (fun _ hf => ?_) (fun _ hf => ?_)
    · exact w_X4_takeEffect_b17 l X x0 x1 x2 h H locs ls hH (lv_sub hl [0, 1, 2] rfl) hf
    · refine lv_aload_n hx hb dX4_takeEffect_10 rfl (lv_at hl 0 rfl) ?_
      refine p_cVV (As := []) (b := x0) (rest := []) (ci := 5) X hH rfl hf (fun _ _ e_ => c_X4_takeOil l G x0 h _ _ e_) mv_X4_takeOil lk_RX4_93 (by decide) rfl hl.1 (Nat.le_of_ble_eq_true rfl) dX4_takeEffect_11 (c2 := 0) (s2 := 0) (by decide) (fun _ h H locs hH hf => ?_)
      refine lv_goto (tgt := 66) hx hb dX4_takeEffect_14 (by decide) ?_
      exact w_X4_takeEffect_b66 l X  h H locs ls hH (lv_sub hl [] rfl) hf
set_option maxRecDepth 100000 in
set_option maxHeartbeats 4000000 in
theorem w_X3_giveEffect_b2 {G : GE} {p : Program} (l : Launch) {e : Env} {s : State} {m : MethodId} {args : Array Value} {below : List Frame} {meth : Method} {c : Code} {rr : Unit} {hh : PH} (X : Cx G p s m args meth c cX3_giveEffect 3 RX3 "giveEffect" none) : ∀ (n : Nat) (x0 : Nat) (x1 : Nat) (x2 : Int32) (h : PH) (H : Heap) (locs : List Loc) (ls : Array Slot) (hH : Hx G s h H locs) (hl : lv_has ls 3 [(0, .ref x0), (1, .ref x1), (2, .int x2)]) (hf : f_X3_giveEffect_b2 G n x0 x1 x2 h = some (rr, hh)), W p l e rm_X3_giveEffect s m args below meth c H locs 0 0 (Fq G none hh below args s rm_X3_giveEffect.cells rm_X3_giveEffect.slots) (F0 m 2 ls []) := by
  have hx := X.1
  have hb := X.2.1
  intro n
  induction n with
  | zero =>
    intro x0 x1 x2 h H locs ls hH hl hf
    have hf : (none : Option (Unit × PH)) = some (rr, hh) := hf
    cases hf
  | succ n ih =>
    intro x0 x1 x2 h H locs ls hH hl hf
    have hf : f_X3_giveEffect_b2_body G (f_X3_giveEffect_b2 G n) x0 x1 x2 h = some (rr, hh) := hf
    generalize f_X3_giveEffect_b2 G n = k2 at hf ih
    have ik2 := ih
    unfold f_X3_giveEffect_b2_body at hf
    refine lv_iload_n hx hb dX3_giveEffect_2 rfl (lv_at hl 2 rfl) ?_
    refine lv_aload_n hx hb dX3_giveEffect_3 rfl (lv_at hl 0 rfl) ?_
    refine p_getR X hH fg_RX3_12 hf dX3_giveEffect_4 (fun v1 _ hf => ?_)
    refine p_cVI (As := []) (b := v1) (rest := [.int x2]) (ci := 0) X hH rfl hf (fun _ _ e_ => c_Jx4a65c_size_8abf5 l G v1 h _ _ e_) mv_Jx4a65c_size_8abf5 lk_RX3_18 (by decide) rfl hl.1 (Nat.le_of_ble_eq_true rfl) dX3_giveEffect_7 (c2 := 0) (s2 := 0) (by decide) (fun v2 h H locs hH hf => ?_)
    refine p_icmp_ge X hf dX3_giveEffect_10 (tgt := 52) (by decide) (fun _ hf => ?_) (fun _ hf => ?_)
    · exact p_vret X hH hf (by decide) (by decide) dX3_giveEffect_52
    · refine lv_aload_n hx hb dX3_giveEffect_13 rfl (lv_at hl 0 rfl) ?_
      refine p_getR X hH fg_RX3_12 hf dX3_giveEffect_14 (fun v3 _ hf => ?_)
      refine lv_iload_n hx hb dX3_giveEffect_17 rfl (lv_at hl 2 rfl) ?_
      refine p_cVR (As := [.int x2]) (b := v3) (rest := []) (ci := 0) X hH rfl hf (fun _ _ e_ => c_Jx4a65c_get_915e3 l G v3 x2 h _ _ e_) mv_Jx4a65c_get_915e3 lk_RX3_22 (by decide) rfl hl.1 (Nat.le_of_ble_eq_true rfl) dX3_giveEffect_18 (c2 := 0) (s2 := 0) (by decide) (fun v4 h H locs hH hf => ?_)
      refine p_cast X hH (ci := 5) rfl m_243 hf dX3_giveEffect_21 (fun _ hf => ?_)
      refine lv_aload_n hx hb dX3_giveEffect_24 rfl (lv_at hl 1 rfl) ?_
      refine p_getI X hH fg_RX3_59 hf dX3_giveEffect_25 (fun v5 _ hf => ?_)
      refine lv_aload_n hx hb dX3_giveEffect_28 rfl (lv_at hl 1 rfl) ?_
      refine lv_aload_n hx hb dX3_giveEffect_29 rfl (lv_at hl 0 rfl) ?_
      refine p_getR X hH fg_RX3_12 hf dX3_giveEffect_30 (fun v6 _ hf => ?_)
      refine lv_iload_n hx hb dX3_giveEffect_33 rfl (lv_at hl 2 rfl) ?_
      refine p_cVR (As := [.int x2]) (b := v6) (rest := [.ref x1, .int v5, .ref v4]) (ci := 0) X hH rfl hf (fun _ _ e_ => c_Jx4a65c_get_915e3 l G v6 x2 h _ _ e_) mv_Jx4a65c_get_915e3 lk_RX3_22 (by decide) rfl hl.1 (Nat.le_of_ble_eq_true rfl) dX3_giveEffect_34 (c2 := 0) (s2 := 0) (by decide) (fun v7 h H locs hH hf => ?_)
      refine p_cast X hH (ci := 5) rfl m_243 hf dX3_giveEffect_37 (fun _ hf => ?_)
      refine p_cVI (As := [.ref v7]) (b := x1) (rest := [.int v5, .ref v4]) (ci := 3) X hH rfl hf (fun _ _ e_ => c_X2_sideOf l G x1 v7 h _ _ e_) mv_X2_sideOf lk_RX3_64 (by decide) rfl hl.1 (Nat.le_of_ble_eq_true rfl) dX3_giveEffect_40 (c2 := 0) (s2 := 0) (by decide) (fun v8 h H locs hH hf => ?_)
      refine p_cVV (As := [.int v5, .int v8]) (b := v4) (rest := []) (ci := 5) X hH rfl hf (fun _ _ e_ => c_X4_takeEffect l G v4 v5 v8 h _ _ e_) mv_X4_takeEffect lk_RX3_68 (by decide) rfl hl.1 (Nat.le_of_ble_eq_true rfl) dX3_giveEffect_43 (c2 := 0) (s2 := 0) (by decide) (fun _ h H locs hH hf => ?_)
      refine lv_iinc (v := (x2 + (1 : Int32))) (lv' := [(2, .int (x2 + (1 : Int32))), (0, .ref x0), (1, .ref x1)]) hx hb dX3_giveEffect_46 hl (k := 2) rfl rfl (by decide) rfl (fun ls hl => ?_)
      refine lv_goto (tgt := 2) hx hb dX3_giveEffect_49 (by decide) ?_
      exact ik2 x0 x1 (x2 + (1 : Int32)) h H locs ls hH (lv_sub hl [1, 2, 0] rfl) hf
set_option maxRecDepth 100000 in
set_option maxHeartbeats 4000000 in
theorem c_X3_giveEffect (l : Launch) (G : GE) (x0 : Nat) (x1 : Nat) (h : PH) (rr : Unit) (hh : PH) (hf : f_X3_giveEffect G x0 x1 h = some (rr, hh)) : Ct l yX3_giveEffect cX3_giveEffect 3 none rm_X3_giveEffect G [.ref x0, .ref x1] h none hh := by
  refine Ct.of (plainFor_of_name (by decide)) (Nat.le_of_ble_eq_true rfl) ?_
  intro p e s m args below meth c ls X hH hl
  have hl : lv_has ls 3 [(0, .ref x0), (1, .ref x1)] := hl
  have X : Cx G p s m args meth c cX3_giveEffect 3 RX3 "giveEffect" none := X
  have hx := X.1
  have hb := X.2.1
  unfold f_X3_giveEffect at hf
  obtain ⟨H, hHe⟩ : ∃ z, z = s.heap := ⟨_, rfl⟩
  obtain ⟨locs, hLe⟩ : ∃ z, z = ([] : List Loc) := ⟨_, rfl⟩
  rw [← hHe, ← hLe] at hH
  rw [← hHe, ← hLe]
  refine lv_iconst (v := 0) hx hb dX3_giveEffect_0 (by decide) ?_
  refine lv_istore_n (lv' := [(2, .int (0 : Int32)), (0, .ref x0), (1, .ref x1)]) hx hb dX3_giveEffect_1 rfl hl (by decide) rfl (fun ls hl => ?_)
  exact w_X3_giveEffect_b2 l X LF x0 x1 (0 : Int32) h H locs ls hH (lv_sub hl [1, 2, 0] rfl) hf
set_option maxRecDepth 100000 in
set_option maxHeartbeats 4000000 in
theorem c_X4_partyNumber (l : Launch) (G : GE) (x0 : Nat) (h : PH) (rr : Int32) (hh : PH) (hf : f_X4_partyNumber G x0 h = some (rr, hh)) : Ct l yX4_partyNumber cX4_partyNumber 1 (some .int) rm_X4_partyNumber G [.ref x0] h (some (.int rr)) hh := by
  refine Ct.of (plainFor_of_name (by decide)) (Nat.le_of_ble_eq_true rfl) ?_
  intro p e s m args below meth c ls X hH hl
  have hl : lv_has ls 1 [(0, .ref x0)] := hl
  have X : Cx G p s m args meth c cX4_partyNumber 1 RX4 "partyNumber" (some .int) := X
  have hx := X.1
  have hb := X.2.1
  unfold f_X4_partyNumber at hf
  obtain ⟨H, hHe⟩ : ∃ z, z = s.heap := ⟨_, rfl⟩
  obtain ⟨locs, hLe⟩ : ∃ z, z = ([] : List Loc) := ⟨_, rfl⟩
  rw [← hHe, ← hLe] at hH
  rw [← hHe, ← hLe]
  refine lv_aload_n hx hb dX4_partyNumber_0 rfl (lv_at hl 0 rfl) ?_
  refine p_getI X hH fg_RX4_19 hf dX4_partyNumber_1 (fun v1 _ hf => ?_)
  refine lv_iconst (v := 2) hx hb dX4_partyNumber_4 (by decide) ?_
  refine lv_iadd hx hb dX4_partyNumber_5 ?_
  refine lv_iconst (v := 4) hx hb dX4_partyNumber_6 (by decide) ?_
  refine lv_idiv hx hb dX4_partyNumber_7 (by decide) ?_
  refine lv_iconst (v := 4) hx hb dX4_partyNumber_8 (by decide) ?_
  refine lv_irem hx hb dX4_partyNumber_9 (by decide) ?_
  exact p_iret X hH hf (by decide) (by decide) dX4_partyNumber_10
set_option maxRecDepth 100000 in
set_option maxHeartbeats 4000000 in
theorem w_X3_votesOf_b54 {G : GE} {p : Program} (l : Launch) {e : Env} {s : State} {m : MethodId} {args : Array Value} {below : List Frame} {meth : Method} {c : Code} {rr : Int32} {hh : PH} (X : Cx G p s m args meth c cX3_votesOf 4 RX3 "votesOf" (some .int)) (k4 : Nat → Int32 → Int32 → Int32 → PH → Option (Int32 × PH)) (ik4 : ∀ (x0 : Nat) (x1 : Int32) (x2 : Int32) (x3 : Int32) (h : PH) (H : Heap) (locs : List Loc) (ls : Array Slot), Hx G s h H locs → lv_has ls 4 [(0, .ref x0), (1, .int x1), (2, .int x2), (3, .int x3)] → k4 x0 x1 x2 x3 h = some (rr, hh) → W p l e rm_X3_votesOf s m args below meth c H locs 0 0 (Fq G (some (.int rr)) hh below args s rm_X3_votesOf.cells rm_X3_votesOf.slots) (F0 m 4 ls [])) (x0 : Nat) (x1 : Int32) (x2 : Int32) (x3 : Int32) (h : PH) (H : Heap) (locs : List Loc) (ls : Array Slot) (hH : Hx G s h H locs) (hl : lv_has ls 4 [(0, .ref x0), (1, .int x1), (2, .int x2), (3, .int x3)]) (hf : f_X3_votesOf_b54 G k4 x0 x1 x2 x3 h = some (rr, hh)) : W p l e rm_X3_votesOf s m args below meth c H locs 0 0 (Fq G (some (.int rr)) hh below args s rm_X3_votesOf.cells rm_X3_votesOf.slots) (F0 m 54 ls []) := by
  have hx := X.1
  have hb := X.2.1
  unfold f_X3_votesOf_b54 at hf
  refine lv_iinc (v := (x3 + (1 : Int32))) (lv' := [(3, .int (x3 + (1 : Int32))), (0, .ref x0), (1, .int x1), (2, .int x2)]) hx hb dX3_votesOf_54 hl (k := 3) rfl rfl (by decide) rfl (fun ls hl => ?_)
  refine lv_goto (tgt := 4) hx hb dX3_votesOf_57 (by decide) ?_
  exact ik4 x0 x1 x2 (x3 + (1 : Int32)) h H locs ls hH (lv_sub hl [1, 2, 3, 0] rfl) hf
set_option maxRecDepth 100000 in
set_option maxHeartbeats 4000000 in
theorem w_X3_votesOf_b4 {G : GE} {p : Program} (l : Launch) {e : Env} {s : State} {m : MethodId} {args : Array Value} {below : List Frame} {meth : Method} {c : Code} {rr : Int32} {hh : PH} (X : Cx G p s m args meth c cX3_votesOf 4 RX3 "votesOf" (some .int)) : ∀ (n : Nat) (x0 : Nat) (x1 : Int32) (x2 : Int32) (x3 : Int32) (h : PH) (H : Heap) (locs : List Loc) (ls : Array Slot) (hH : Hx G s h H locs) (hl : lv_has ls 4 [(0, .ref x0), (1, .int x1), (2, .int x2), (3, .int x3)]) (hf : f_X3_votesOf_b4 G n x0 x1 x2 x3 h = some (rr, hh)), W p l e rm_X3_votesOf s m args below meth c H locs 0 0 (Fq G (some (.int rr)) hh below args s rm_X3_votesOf.cells rm_X3_votesOf.slots) (F0 m 4 ls []) := by
  have hx := X.1
  have hb := X.2.1
  intro n
  induction n with
  | zero =>
    intro x0 x1 x2 x3 h H locs ls hH hl hf
    have hf : (none : Option (Int32 × PH)) = some (rr, hh) := hf
    cases hf
  | succ n ih =>
    intro x0 x1 x2 x3 h H locs ls hH hl hf
    have hf : f_X3_votesOf_b4_body G (f_X3_votesOf_b4 G n) x0 x1 x2 x3 h = some (rr, hh) := hf
    generalize f_X3_votesOf_b4 G n = k4 at hf ih
    have ik4 := ih
    unfold f_X3_votesOf_b4_body at hf
    refine lv_iload_n hx hb dX3_votesOf_4 rfl (lv_at hl 3 rfl) ?_
    refine lv_aload_n hx hb dX3_votesOf_5 rfl (lv_at hl 0 rfl) ?_
    refine p_getR X hH fg_RX3_12 hf dX3_votesOf_6 (fun v1 _ hf => ?_)
    refine p_cVI (As := []) (b := v1) (rest := [.int x3]) (ci := 0) X hH rfl hf (fun _ _ e_ => c_Jx4a65c_size_8abf5 l G v1 h _ _ e_) mv_Jx4a65c_size_8abf5 lk_RX3_18 (by decide) rfl hl.1 (Nat.le_of_ble_eq_true rfl) dX3_votesOf_9 (c2 := 0) (s2 := 0) (by decide) (fun v2 h H locs hH hf => ?_)
    refine p_icmp_ge X hf dX3_votesOf_12 (tgt := 60) (by decide) (fun _ hf => ?_) (fun _ hf => ?_)
    · refine lv_iload_n hx hb dX3_votesOf_60 rfl (lv_at hl 2 rfl) ?_
      exact p_iret X hH hf (by decide) (by decide) dX3_votesOf_61
    · refine lv_iload_n hx hb dX3_votesOf_15 rfl (lv_at hl 1 rfl) ?_
      refine lv_aload_n hx hb dX3_votesOf_16 rfl (lv_at hl 0 rfl) ?_
      refine p_getR X hH fg_RX3_12 hf dX3_votesOf_17 (fun v3 _ hf => ?_)
      refine lv_iload_n hx hb dX3_votesOf_20 rfl (lv_at hl 3 rfl) ?_
      refine p_cVR (As := [.int x3]) (b := v3) (rest := [.int x1]) (ci := 0) X hH rfl hf (fun _ _ e_ => c_Jx4a65c_get_915e3 l G v3 x3 h _ _ e_) mv_Jx4a65c_get_915e3 lk_RX3_22 (by decide) rfl hl.1 (Nat.le_of_ble_eq_true rfl) dX3_votesOf_21 (c2 := 0) (s2 := 0) (by decide) (fun v4 h H locs hH hf => ?_)
      refine p_cast X hH (ci := 5) rfl m_243 hf dX3_votesOf_24 (fun _ hf => ?_)
      refine p_cVI (As := []) (b := v4) (rest := [.int x1]) (ci := 5) X hH rfl hf (fun _ _ e_ => c_X4_partyNumber l G v4 h _ _ e_) mv_X4_partyNumber lk_RX3_87 (by decide) rfl hl.1 (Nat.le_of_ble_eq_true rfl) dX3_votesOf_27 (c2 := 0) (s2 := 0) (by decide) (fun v5 h H locs hH hf => ?_)
      refine lv_ishr hx hb dX3_votesOf_30 ?_
      refine lv_iconst (v := 1) hx hb dX3_votesOf_31 (by decide) ?_
      refine lv_iand hx hb dX3_votesOf_32 ?_
      refine lv_iconst (v := 1) hx hb dX3_votesOf_33 (by decide) ?_
      refine p_icmp_ne X hf dX3_votesOf_34 (tgt := 54) (by decide) (fun _ hf => ?_) (fun _ hf => ?_)
      · exact w_X3_votesOf_b54 l X k4 ik4 x0 x1 x2 x3 h H locs ls hH (lv_sub hl [0, 1, 2, 3] rfl) hf
      · refine lv_iload_n hx hb dX3_votesOf_37 rfl (lv_at hl 2 rfl) ?_
        refine lv_aload_n hx hb dX3_votesOf_38 rfl (lv_at hl 0 rfl) ?_
        refine p_getR X hH fg_RX3_12 hf dX3_votesOf_39 (fun v6 _ hf => ?_)
        refine lv_iload_n hx hb dX3_votesOf_42 rfl (lv_at hl 3 rfl) ?_
        refine p_cVR (As := [.int x3]) (b := v6) (rest := [.int x2]) (ci := 0) X hH rfl hf (fun _ _ e_ => c_Jx4a65c_get_915e3 l G v6 x3 h _ _ e_) mv_Jx4a65c_get_915e3 lk_RX3_22 (by decide) rfl hl.1 (Nat.le_of_ble_eq_true rfl) dX3_votesOf_43 (c2 := 0) (s2 := 0) (by decide) (fun v7 h H locs hH hf => ?_)
        refine p_cast X hH (ci := 5) rfl m_243 hf dX3_votesOf_46 (fun _ hf => ?_)
        refine p_getI X hH fg_RX3_72 hf dX3_votesOf_49 (fun v8 _ hf => ?_)
        refine lv_iadd hx hb dX3_votesOf_52 ?_
        refine lv_istore_n (lv' := [(2, .int (x2 + v8)), (0, .ref x0), (1, .int x1), (3, .int x3)]) hx hb dX3_votesOf_53 rfl hl (by decide) rfl (fun ls hl => ?_)
        exact w_X3_votesOf_b54 l X k4 ik4 x0 x1 (x2 + v8) x3 h H locs ls hH (lv_sub hl [1, 2, 0, 3] rfl) hf
set_option maxRecDepth 100000 in
set_option maxHeartbeats 4000000 in
theorem c_X3_votesOf (l : Launch) (G : GE) (x0 : Nat) (x1 : Int32) (h : PH) (rr : Int32) (hh : PH) (hf : f_X3_votesOf G x0 x1 h = some (rr, hh)) : Ct l yX3_votesOf cX3_votesOf 4 (some .int) rm_X3_votesOf G [.ref x0, .int x1] h (some (.int rr)) hh := by
  refine Ct.of (plainFor_of_name (by decide)) (Nat.le_of_ble_eq_true rfl) ?_
  intro p e s m args below meth c ls X hH hl
  have hl : lv_has ls 4 [(0, .ref x0), (1, .int x1)] := hl
  have X : Cx G p s m args meth c cX3_votesOf 4 RX3 "votesOf" (some .int) := X
  have hx := X.1
  have hb := X.2.1
  unfold f_X3_votesOf at hf
  obtain ⟨H, hHe⟩ : ∃ z, z = s.heap := ⟨_, rfl⟩
  obtain ⟨locs, hLe⟩ : ∃ z, z = ([] : List Loc) := ⟨_, rfl⟩
  rw [← hHe, ← hLe] at hH
  rw [← hHe, ← hLe]
  refine lv_iconst (v := 0) hx hb dX3_votesOf_0 (by decide) ?_
  refine lv_istore_n (lv' := [(2, .int (0 : Int32)), (0, .ref x0), (1, .int x1)]) hx hb dX3_votesOf_1 rfl hl (by decide) rfl (fun ls hl => ?_)
  refine lv_iconst (v := 0) hx hb dX3_votesOf_2 (by decide) ?_
  refine lv_istore_n (lv' := [(3, .int (0 : Int32)), (2, .int (0 : Int32)), (0, .ref x0), (1, .int x1)]) hx hb dX3_votesOf_3 rfl hl (by decide) rfl (fun ls hl => ?_)
  exact w_X3_votesOf_b4 l X LF x0 x1 (0 : Int32) (0 : Int32) h H locs ls hH (lv_sub hl [2, 3, 1, 0] rfl) hf
set_option maxRecDepth 100000 in
set_option maxHeartbeats 4000000 in
theorem c_X3_allVotes (l : Launch) (G : GE) (x0 : Nat) (h : PH) (rr : Int32) (hh : PH) (hf : f_X3_allVotes G x0 h = some (rr, hh)) : Ct l yX3_allVotes cX3_allVotes 1 (some .int) rm_X3_allVotes G [.ref x0] h (some (.int rr)) hh := by
  refine Ct.of (plainFor_of_name (by decide)) (Nat.le_of_ble_eq_true rfl) ?_
  intro p e s m args below meth c ls X hH hl
  have hl : lv_has ls 1 [(0, .ref x0)] := hl
  have X : Cx G p s m args meth c cX3_allVotes 1 RX3 "allVotes" (some .int) := X
  have hx := X.1
  have hb := X.2.1
  unfold f_X3_allVotes at hf
  obtain ⟨H, hHe⟩ : ∃ z, z = s.heap := ⟨_, rfl⟩
  obtain ⟨locs, hLe⟩ : ∃ z, z = ([] : List Loc) := ⟨_, rfl⟩
  rw [← hHe, ← hLe] at hH
  rw [← hHe, ← hLe]
  refine lv_aload_n hx hb dX3_allVotes_0 rfl (lv_at hl 0 rfl) ?_
  refine lv_bipush (v := 15) hx hb dX3_allVotes_1 (by decide) ?_
  refine p_cVI (As := [.int (15 : Int32)]) (b := x0) (rest := []) (ci := 4) X hH rfl hf (fun _ _ e_ => c_X3_votesOf l G x0 (15 : Int32) h _ _ e_) mv_X3_votesOf lk_RX3_84 (by decide) rfl hl.1 (Nat.le_of_ble_eq_true rfl) dX3_allVotes_3 (c2 := 0) (s2 := 0) (by decide) (fun v1 h H locs hH hf => ?_)
  exact p_iret X hH hf (by decide) (by decide) dX3_allVotes_6
set_option maxRecDepth 100000 in
set_option maxHeartbeats 4000000 in
theorem w_X3_vanesOf_b4 {G : GE} {p : Program} (l : Launch) {e : Env} {s : State} {m : MethodId} {args : Array Value} {below : List Frame} {meth : Method} {c : Code} {rr : Int32} {hh : PH} (X : Cx G p s m args meth c cX3_vanesOf 4 RX3 "vanesOf" (some .int)) : ∀ (n : Nat) (x0 : Nat) (x1 : Int32) (x2 : Int32) (x3 : Int32) (h : PH) (H : Heap) (locs : List Loc) (ls : Array Slot) (hH : Hx G s h H locs) (hl : lv_has ls 4 [(0, .ref x0), (1, .int x1), (2, .int x2), (3, .int x3)]) (hf : f_X3_vanesOf_b4 G n x0 x1 x2 x3 h = some (rr, hh)), W p l e rm_X3_vanesOf s m args below meth c H locs 0 0 (Fq G (some (.int rr)) hh below args s rm_X3_vanesOf.cells rm_X3_vanesOf.slots) (F0 m 4 ls []) := by
  have hx := X.1
  have hb := X.2.1
  intro n
  induction n with
  | zero =>
    intro x0 x1 x2 x3 h H locs ls hH hl hf
    have hf : (none : Option (Int32 × PH)) = some (rr, hh) := hf
    cases hf
  | succ n ih =>
    intro x0 x1 x2 x3 h H locs ls hH hl hf
    have hf : f_X3_vanesOf_b4_body G (f_X3_vanesOf_b4 G n) x0 x1 x2 x3 h = some (rr, hh) := hf
    generalize f_X3_vanesOf_b4 G n = k4 at hf ih
    have ik4 := ih
    unfold f_X3_vanesOf_b4_body at hf
    refine lv_iload_n hx hb dX3_vanesOf_4 rfl (lv_at hl 3 rfl) ?_
    refine lv_aload_n hx hb dX3_vanesOf_5 rfl (lv_at hl 0 rfl) ?_
    refine p_getR X hH fg_RX3_12 hf dX3_vanesOf_6 (fun v1 _ hf => ?_)
    refine p_cVI (As := []) (b := v1) (rest := [.int x3]) (ci := 0) X hH rfl hf (fun _ _ e_ => c_Jx4a65c_size_8abf5 l G v1 h _ _ e_) mv_Jx4a65c_size_8abf5 lk_RX3_18 (by decide) rfl hl.1 (Nat.le_of_ble_eq_true rfl) dX3_vanesOf_9 (c2 := 0) (s2 := 0) (by decide) (fun v2 h H locs hH hf => ?_)
    refine p_icmp_ge X hf dX3_vanesOf_12 (tgt := 42) (by decide) (fun _ hf => ?_) (fun _ hf => ?_)
    · refine lv_iload_n hx hb dX3_vanesOf_42 rfl (lv_at hl 2 rfl) ?_
      exact p_iret X hH hf (by decide) (by decide) dX3_vanesOf_43
    · refine lv_iload_n hx hb dX3_vanesOf_15 rfl (lv_at hl 2 rfl) ?_
      refine lv_iload_n hx hb dX3_vanesOf_16 rfl (lv_at hl 1 rfl) ?_
      refine lv_aload_n hx hb dX3_vanesOf_17 rfl (lv_at hl 0 rfl) ?_
      refine p_getR X hH fg_RX3_12 hf dX3_vanesOf_18 (fun v3 _ hf => ?_)
      refine lv_iload_n hx hb dX3_vanesOf_21 rfl (lv_at hl 3 rfl) ?_
      refine p_cVR (As := [.int x3]) (b := v3) (rest := [.int x1, .int x2]) (ci := 0) X hH rfl hf (fun _ _ e_ => c_Jx4a65c_get_915e3 l G v3 x3 h _ _ e_) mv_Jx4a65c_get_915e3 lk_RX3_22 (by decide) rfl hl.1 (Nat.le_of_ble_eq_true rfl) dX3_vanesOf_22 (c2 := 0) (s2 := 0) (by decide) (fun v4 h H locs hH hf => ?_)
      refine p_cast X hH (ci := 5) rfl m_243 hf dX3_vanesOf_25 (fun _ hf => ?_)
      refine p_cVI (As := []) (b := v4) (rest := [.int x1, .int x2]) (ci := 5) X hH rfl hf (fun _ _ e_ => c_X4_partyNumber l G v4 h _ _ e_) mv_X4_partyNumber lk_RX3_87 (by decide) rfl hl.1 (Nat.le_of_ble_eq_true rfl) dX3_vanesOf_28 (c2 := 0) (s2 := 0) (by decide) (fun v5 h H locs hH hf => ?_)
      refine lv_ishr hx hb dX3_vanesOf_31 ?_
      refine lv_iconst (v := 1) hx hb dX3_vanesOf_32 (by decide) ?_
      refine lv_iand hx hb dX3_vanesOf_33 ?_
      refine lv_iadd hx hb dX3_vanesOf_34 ?_
      refine lv_istore_n (lv' := [(2, .int (x2 + ((x1 >>> (v5 &&& 31)) &&& (1 : Int32)))), (0, .ref x0), (1, .int x1), (3, .int x3)]) hx hb dX3_vanesOf_35 rfl hl (by decide) rfl (fun ls hl => ?_)
      refine lv_iinc (v := (x3 + (1 : Int32))) (lv' := [(3, .int (x3 + (1 : Int32))), (2, .int (x2 + ((x1 >>> (v5 &&& 31)) &&& (1 : Int32)))), (0, .ref x0), (1, .int x1)]) hx hb dX3_vanesOf_36 hl (k := 3) rfl rfl (by decide) rfl (fun ls hl => ?_)
      refine lv_goto (tgt := 4) hx hb dX3_vanesOf_39 (by decide) ?_
      exact ik4 x0 x1 (x2 + ((x1 >>> (v5 &&& 31)) &&& (1 : Int32))) (x3 + (1 : Int32)) h H locs ls hH (lv_sub hl [2, 3, 1, 0] rfl) hf
set_option maxRecDepth 100000 in
set_option maxHeartbeats 4000000 in
theorem c_X3_vanesOf (l : Launch) (G : GE) (x0 : Nat) (x1 : Int32) (h : PH) (rr : Int32) (hh : PH) (hf : f_X3_vanesOf G x0 x1 h = some (rr, hh)) : Ct l yX3_vanesOf cX3_vanesOf 4 (some .int) rm_X3_vanesOf G [.ref x0, .int x1] h (some (.int rr)) hh := by
  refine Ct.of (plainFor_of_name (by decide)) (Nat.le_of_ble_eq_true rfl) ?_
  intro p e s m args below meth c ls X hH hl
  have hl : lv_has ls 4 [(0, .ref x0), (1, .int x1)] := hl
  have X : Cx G p s m args meth c cX3_vanesOf 4 RX3 "vanesOf" (some .int) := X
  have hx := X.1
  have hb := X.2.1
  unfold f_X3_vanesOf at hf
  obtain ⟨H, hHe⟩ : ∃ z, z = s.heap := ⟨_, rfl⟩
  obtain ⟨locs, hLe⟩ : ∃ z, z = ([] : List Loc) := ⟨_, rfl⟩
  rw [← hHe, ← hLe] at hH
  rw [← hHe, ← hLe]
  refine lv_iconst (v := 0) hx hb dX3_vanesOf_0 (by decide) ?_
  refine lv_istore_n (lv' := [(2, .int (0 : Int32)), (0, .ref x0), (1, .int x1)]) hx hb dX3_vanesOf_1 rfl hl (by decide) rfl (fun ls hl => ?_)
  refine lv_iconst (v := 0) hx hb dX3_vanesOf_2 (by decide) ?_
  refine lv_istore_n (lv' := [(3, .int (0 : Int32)), (2, .int (0 : Int32)), (0, .ref x0), (1, .int x1)]) hx hb dX3_vanesOf_3 rfl hl (by decide) rfl (fun ls hl => ?_)
  exact w_X3_vanesOf_b4 l X LF x0 x1 (0 : Int32) (0 : Int32) h H locs ls hH (lv_sub hl [2, 3, 1, 0] rfl) hf
set_option maxRecDepth 100000 in
set_option maxHeartbeats 4000000 in
theorem w_X3_boundVanes_b35 {G : GE} {p : Program} (l : Launch) {e : Env} {s : State} {m : MethodId} {args : Array Value} {below : List Frame} {meth : Method} {c : Code} {rr : Int32} {hh : PH} (X : Cx G p s m args meth c cX3_boundVanes 3 RX3 "boundVanes" (some .int)) (k4 : Nat → Int32 → Int32 → PH → Option (Int32 × PH)) (ik4 : ∀ (x0 : Nat) (x1 : Int32) (x2 : Int32) (h : PH) (H : Heap) (locs : List Loc) (ls : Array Slot), Hx G s h H locs → lv_has ls 3 [(0, .ref x0), (1, .int x1), (2, .int x2)] → k4 x0 x1 x2 h = some (rr, hh) → W p l e rm_X3_boundVanes s m args below meth c H locs 0 0 (Fq G (some (.int rr)) hh below args s rm_X3_boundVanes.cells rm_X3_boundVanes.slots) (F0 m 4 ls [])) (x0 : Nat) (x1 : Int32) (x2 : Int32) (h : PH) (H : Heap) (locs : List Loc) (ls : Array Slot) (hH : Hx G s h H locs) (hl : lv_has ls 3 [(0, .ref x0), (1, .int x1), (2, .int x2)]) (hf : f_X3_boundVanes_b35 G k4 x0 x1 x2 h = some (rr, hh)) : W p l e rm_X3_boundVanes s m args below meth c H locs 0 0 (Fq G (some (.int rr)) hh below args s rm_X3_boundVanes.cells rm_X3_boundVanes.slots) (F0 m 35 ls []) := by
  have hx := X.1
  have hb := X.2.1
  unfold f_X3_boundVanes_b35 at hf
  refine lv_iinc (v := (x2 + (1 : Int32))) (lv' := [(2, .int (x2 + (1 : Int32))), (0, .ref x0), (1, .int x1)]) hx hb dX3_boundVanes_35 hl (k := 2) rfl rfl (by decide) rfl (fun ls hl => ?_)
  refine lv_goto (tgt := 4) hx hb dX3_boundVanes_38 (by decide) ?_
  exact ik4 x0 x1 (x2 + (1 : Int32)) h H locs ls hH (lv_sub hl [1, 2, 0] rfl) hf
set_option maxRecDepth 100000 in
set_option maxHeartbeats 4000000 in
theorem w_X3_boundVanes_b4 {G : GE} {p : Program} (l : Launch) {e : Env} {s : State} {m : MethodId} {args : Array Value} {below : List Frame} {meth : Method} {c : Code} {rr : Int32} {hh : PH} (X : Cx G p s m args meth c cX3_boundVanes 3 RX3 "boundVanes" (some .int)) : ∀ (n : Nat) (x0 : Nat) (x1 : Int32) (x2 : Int32) (h : PH) (H : Heap) (locs : List Loc) (ls : Array Slot) (hH : Hx G s h H locs) (hl : lv_has ls 3 [(0, .ref x0), (1, .int x1), (2, .int x2)]) (hf : f_X3_boundVanes_b4 G n x0 x1 x2 h = some (rr, hh)), W p l e rm_X3_boundVanes s m args below meth c H locs 0 0 (Fq G (some (.int rr)) hh below args s rm_X3_boundVanes.cells rm_X3_boundVanes.slots) (F0 m 4 ls []) := by
  have hx := X.1
  have hb := X.2.1
  intro n
  induction n with
  | zero =>
    intro x0 x1 x2 h H locs ls hH hl hf
    have hf : (none : Option (Int32 × PH)) = some (rr, hh) := hf
    cases hf
  | succ n ih =>
    intro x0 x1 x2 h H locs ls hH hl hf
    have hf : f_X3_boundVanes_b4_body G (f_X3_boundVanes_b4 G n) x0 x1 x2 h = some (rr, hh) := hf
    generalize f_X3_boundVanes_b4 G n = k4 at hf ih
    have ik4 := ih
    unfold f_X3_boundVanes_b4_body at hf
    refine lv_iload_n hx hb dX3_boundVanes_4 rfl (lv_at hl 2 rfl) ?_
    refine lv_aload_n hx hb dX3_boundVanes_5 rfl (lv_at hl 0 rfl) ?_
    refine p_getR X hH fg_RX3_12 hf dX3_boundVanes_6 (fun v1 _ hf => ?_)
    refine p_cVI (As := []) (b := v1) (rest := [.int x2]) (ci := 0) X hH rfl hf (fun _ _ e_ => c_Jx4a65c_size_8abf5 l G v1 h _ _ e_) mv_Jx4a65c_size_8abf5 lk_RX3_18 (by decide) rfl hl.1 (Nat.le_of_ble_eq_true rfl) dX3_boundVanes_9 (c2 := 0) (s2 := 0) (by decide) (fun v2 h H locs hH hf => ?_)
    refine p_icmp_ge X hf dX3_boundVanes_12 (tgt := 41) (by decide) (fun _ hf => ?_) (fun _ hf => ?_)
    · refine lv_iload_n hx hb dX3_boundVanes_41 rfl (lv_at hl 1 rfl) ?_
      exact p_iret X hH hf (by decide) (by decide) dX3_boundVanes_42
    · refine lv_aload_n hx hb dX3_boundVanes_15 rfl (lv_at hl 0 rfl) ?_
      refine p_getR X hH fg_RX3_12 hf dX3_boundVanes_16 (fun v3 _ hf => ?_)
      refine lv_iload_n hx hb dX3_boundVanes_19 rfl (lv_at hl 2 rfl) ?_
      refine p_cVR (As := [.int x2]) (b := v3) (rest := []) (ci := 0) X hH rfl hf (fun _ _ e_ => c_Jx4a65c_get_915e3 l G v3 x2 h _ _ e_) mv_Jx4a65c_get_915e3 lk_RX3_22 (by decide) rfl hl.1 (Nat.le_of_ble_eq_true rfl) dX3_boundVanes_20 (c2 := 0) (s2 := 0) (by decide) (fun v4 h H locs hH hf => ?_)
      refine p_cast X hH (ci := 5) rfl m_243 hf dX3_boundVanes_23 (fun _ hf => ?_)
      refine p_getI X hH fg_RX3_90 hf dX3_boundVanes_26 (fun v5 _ hf => ?_)
      refine p_if_le X hf dX3_boundVanes_29 (tgt := 35) (by decide) (fun _ hf => ?_) (fun _ hf => ?_)
      · exact w_X3_boundVanes_b35 l X k4 ik4 x0 x1 x2 h H locs ls hH (lv_sub hl [0, 1, 2] rfl) hf
      · refine lv_iinc (v := (x1 + (1 : Int32))) (lv' := [(1, .int (x1 + (1 : Int32))), (0, .ref x0), (2, .int x2)]) hx hb dX3_boundVanes_32 hl (k := 1) rfl rfl (by decide) rfl (fun ls hl => ?_)
        exact w_X3_boundVanes_b35 l X k4 ik4 x0 (x1 + (1 : Int32)) x2 h H locs ls hH (lv_sub hl [1, 0, 2] rfl) hf
set_option maxRecDepth 100000 in
set_option maxHeartbeats 4000000 in
theorem c_X3_boundVanes (l : Launch) (G : GE) (x0 : Nat) (h : PH) (rr : Int32) (hh : PH) (hf : f_X3_boundVanes G x0 h = some (rr, hh)) : Ct l yX3_boundVanes cX3_boundVanes 3 (some .int) rm_X3_boundVanes G [.ref x0] h (some (.int rr)) hh := by
  refine Ct.of (plainFor_of_name (by decide)) (Nat.le_of_ble_eq_true rfl) ?_
  intro p e s m args below meth c ls X hH hl
  have hl : lv_has ls 3 [(0, .ref x0)] := hl
  have X : Cx G p s m args meth c cX3_boundVanes 3 RX3 "boundVanes" (some .int) := X
  have hx := X.1
  have hb := X.2.1
  unfold f_X3_boundVanes at hf
  obtain ⟨H, hHe⟩ : ∃ z, z = s.heap := ⟨_, rfl⟩
  obtain ⟨locs, hLe⟩ : ∃ z, z = ([] : List Loc) := ⟨_, rfl⟩
  rw [← hHe, ← hLe] at hH
  rw [← hHe, ← hLe]
  refine lv_iconst (v := 0) hx hb dX3_boundVanes_0 (by decide) ?_
  refine lv_istore_n (lv' := [(1, .int (0 : Int32)), (0, .ref x0)]) hx hb dX3_boundVanes_1 rfl hl (by decide) rfl (fun ls hl => ?_)
  refine lv_iconst (v := 0) hx hb dX3_boundVanes_2 (by decide) ?_
  refine lv_istore_n (lv' := [(2, .int (0 : Int32)), (1, .int (0 : Int32)), (0, .ref x0)]) hx hb dX3_boundVanes_3 rfl hl (by decide) rfl (fun ls hl => ?_)
  exact w_X3_boundVanes_b4 l X LF x0 (0 : Int32) (0 : Int32) h H locs ls hH (lv_sub hl [2, 1, 0] rfl) hf
set_option maxRecDepth 100000 in
set_option maxHeartbeats 4000000 in
theorem w_X3_stuckVanes_b53 {G : GE} {p : Program} (l : Launch) {e : Env} {s : State} {m : MethodId} {args : Array Value} {below : List Frame} {meth : Method} {c : Code} {rr : Int32} {hh : PH} (X : Cx G p s m args meth c cX3_stuckVanes 4 RX3 "stuckVanes" (some .int)) (k4 : Nat → Nat → Int32 → Int32 → PH → Option (Int32 × PH)) (ik4 : ∀ (x0 : Nat) (x1 : Nat) (x2 : Int32) (x3 : Int32) (h : PH) (H : Heap) (locs : List Loc) (ls : Array Slot), Hx G s h H locs → lv_has ls 4 [(0, .ref x0), (1, .ref x1), (2, .int x2), (3, .int x3)] → k4 x0 x1 x2 x3 h = some (rr, hh) → W p l e rm_X3_stuckVanes s m args below meth c H locs 0 0 (Fq G (some (.int rr)) hh below args s rm_X3_stuckVanes.cells rm_X3_stuckVanes.slots) (F0 m 4 ls [])) (x0 : Nat) (x1 : Nat) (x2 : Int32) (x3 : Int32) (h : PH) (H : Heap) (locs : List Loc) (ls : Array Slot) (hH : Hx G s h H locs) (hl : lv_has ls 4 [(0, .ref x0), (1, .ref x1), (2, .int x2), (3, .int x3)]) (hf : f_X3_stuckVanes_b53 G k4 x0 x1 x2 x3 h = some (rr, hh)) : W p l e rm_X3_stuckVanes s m args below meth c H locs 0 0 (Fq G (some (.int rr)) hh below args s rm_X3_stuckVanes.cells rm_X3_stuckVanes.slots) (F0 m 53 ls []) := by
  have hx := X.1
  have hb := X.2.1
  unfold f_X3_stuckVanes_b53 at hf
  refine lv_iinc (v := (x3 + (1 : Int32))) (lv' := [(3, .int (x3 + (1 : Int32))), (0, .ref x0), (1, .ref x1), (2, .int x2)]) hx hb dX3_stuckVanes_53 hl (k := 3) rfl rfl (by decide) rfl (fun ls hl => ?_)
  refine lv_goto (tgt := 4) hx hb dX3_stuckVanes_56 (by decide) ?_
  exact ik4 x0 x1 x2 (x3 + (1 : Int32)) h H locs ls hH (lv_sub hl [1, 2, 3, 0] rfl) hf
set_option maxRecDepth 100000 in
set_option maxHeartbeats 4000000 in
theorem w_X3_stuckVanes_b4 {G : GE} {p : Program} (l : Launch) {e : Env} {s : State} {m : MethodId} {args : Array Value} {below : List Frame} {meth : Method} {c : Code} {rr : Int32} {hh : PH} (X : Cx G p s m args meth c cX3_stuckVanes 4 RX3 "stuckVanes" (some .int)) : ∀ (n : Nat) (x0 : Nat) (x1 : Nat) (x2 : Int32) (x3 : Int32) (h : PH) (H : Heap) (locs : List Loc) (ls : Array Slot) (hH : Hx G s h H locs) (hl : lv_has ls 4 [(0, .ref x0), (1, .ref x1), (2, .int x2), (3, .int x3)]) (hf : f_X3_stuckVanes_b4 G n x0 x1 x2 x3 h = some (rr, hh)), W p l e rm_X3_stuckVanes s m args below meth c H locs 0 0 (Fq G (some (.int rr)) hh below args s rm_X3_stuckVanes.cells rm_X3_stuckVanes.slots) (F0 m 4 ls []) := by
  have hx := X.1
  have hb := X.2.1
  intro n
  induction n with
  | zero =>
    intro x0 x1 x2 x3 h H locs ls hH hl hf
    have hf : (none : Option (Int32 × PH)) = some (rr, hh) := hf
    cases hf
  | succ n ih =>
    intro x0 x1 x2 x3 h H locs ls hH hl hf
    have hf : f_X3_stuckVanes_b4_body G (f_X3_stuckVanes_b4 G n) x0 x1 x2 x3 h = some (rr, hh) := hf
    generalize f_X3_stuckVanes_b4 G n = k4 at hf ih
    have ik4 := ih
    unfold f_X3_stuckVanes_b4_body at hf
    refine lv_iload_n hx hb dX3_stuckVanes_4 rfl (lv_at hl 3 rfl) ?_
    refine lv_aload_n hx hb dX3_stuckVanes_5 rfl (lv_at hl 0 rfl) ?_
    refine p_getR X hH fg_RX3_12 hf dX3_stuckVanes_6 (fun v1 _ hf => ?_)
    refine p_cVI (As := []) (b := v1) (rest := [.int x3]) (ci := 0) X hH rfl hf (fun _ _ e_ => c_Jx4a65c_size_8abf5 l G v1 h _ _ e_) mv_Jx4a65c_size_8abf5 lk_RX3_18 (by decide) rfl hl.1 (Nat.le_of_ble_eq_true rfl) dX3_stuckVanes_9 (c2 := 0) (s2 := 0) (by decide) (fun v2 h H locs hH hf => ?_)
    refine p_icmp_ge X hf dX3_stuckVanes_12 (tgt := 59) (by decide) (fun _ hf => ?_) (fun _ hf => ?_)
    · refine lv_iload_n hx hb dX3_stuckVanes_59 rfl (lv_at hl 2 rfl) ?_
      exact p_iret X hH hf (by decide) (by decide) dX3_stuckVanes_60
    · refine lv_aload_n hx hb dX3_stuckVanes_15 rfl (lv_at hl 0 rfl) ?_
      refine p_getR X hH fg_RX3_12 hf dX3_stuckVanes_16 (fun v3 _ hf => ?_)
      refine lv_iload_n hx hb dX3_stuckVanes_19 rfl (lv_at hl 3 rfl) ?_
      refine p_cVR (As := [.int x3]) (b := v3) (rest := []) (ci := 0) X hH rfl hf (fun _ _ e_ => c_Jx4a65c_get_915e3 l G v3 x3 h _ _ e_) mv_Jx4a65c_get_915e3 lk_RX3_22 (by decide) rfl hl.1 (Nat.le_of_ble_eq_true rfl) dX3_stuckVanes_20 (c2 := 0) (s2 := 0) (by decide) (fun v4 h H locs hH hf => ?_)
      refine p_cast X hH (ci := 5) rfl m_243 hf dX3_stuckVanes_23 (fun _ hf => ?_)
      refine p_getI X hH fg_RX3_90 hf dX3_stuckVanes_26 (fun v5 _ hf => ?_)
      refine p_if_ne X hf dX3_stuckVanes_29 (tgt := 53) (by decide) (fun _ hf => ?_) (fun _ hf => ?_)
      · exact w_X3_stuckVanes_b53 l X k4 ik4 x0 x1 x2 x3 h H locs ls hH (lv_sub hl [0, 1, 2, 3] rfl) hf
      · refine lv_aload_n hx hb dX3_stuckVanes_32 rfl (lv_at hl 0 rfl) ?_
        refine p_getR X hH fg_RX3_12 hf dX3_stuckVanes_33 (fun v6 _ hf => ?_)
        refine lv_iload_n hx hb dX3_stuckVanes_36 rfl (lv_at hl 3 rfl) ?_
        refine p_cVR (As := [.int x3]) (b := v6) (rest := []) (ci := 0) X hH rfl hf (fun _ _ e_ => c_Jx4a65c_get_915e3 l G v6 x3 h _ _ e_) mv_Jx4a65c_get_915e3 lk_RX3_22 (by decide) rfl hl.1 (Nat.le_of_ble_eq_true rfl) dX3_stuckVanes_37 (c2 := 0) (s2 := 0) (by decide) (fun v7 h H locs hH hf => ?_)
        refine p_cast X hH (ci := 5) rfl m_243 hf dX3_stuckVanes_40 (fun _ hf => ?_)
        refine lv_aload_n hx hb dX3_stuckVanes_43 rfl (lv_at hl 1 rfl) ?_
        refine p_cVI (As := [.ref x1]) (b := v7) (rest := []) (ci := 5) X hH rfl hf (fun _ _ e_ => c_X4_isStuck l G v7 x1 h _ _ e_) mv_X4_isStuck lk_RX3_93 (by decide) rfl hl.1 (Nat.le_of_ble_eq_true rfl) dX3_stuckVanes_44 (c2 := 0) (s2 := 0) (by decide) (fun v8 h H locs hH hf => ?_)
        refine p_if_eq X hf dX3_stuckVanes_47 (tgt := 53) (by decide) (fun _ hf => ?_) (fun _ hf => ?_)
        · exact w_X3_stuckVanes_b53 l X k4 ik4 x0 x1 x2 x3 h H locs ls hH (lv_sub hl [0, 1, 2, 3] rfl) hf
        · refine lv_iinc (v := (x2 + (1 : Int32))) (lv' := [(2, .int (x2 + (1 : Int32))), (0, .ref x0), (1, .ref x1), (3, .int x3)]) hx hb dX3_stuckVanes_50 hl (k := 2) rfl rfl (by decide) rfl (fun ls hl => ?_)
          exact w_X3_stuckVanes_b53 l X k4 ik4 x0 x1 (x2 + (1 : Int32)) x3 h H locs ls hH (lv_sub hl [1, 2, 0, 3] rfl) hf
set_option maxRecDepth 100000 in
set_option maxHeartbeats 4000000 in
theorem c_X3_stuckVanes (l : Launch) (G : GE) (x0 : Nat) (x1 : Nat) (h : PH) (rr : Int32) (hh : PH) (hf : f_X3_stuckVanes G x0 x1 h = some (rr, hh)) : Ct l yX3_stuckVanes cX3_stuckVanes 4 (some .int) rm_X3_stuckVanes G [.ref x0, .ref x1] h (some (.int rr)) hh := by
  refine Ct.of (plainFor_of_name (by decide)) (Nat.le_of_ble_eq_true rfl) ?_
  intro p e s m args below meth c ls X hH hl
  have hl : lv_has ls 4 [(0, .ref x0), (1, .ref x1)] := hl
  have X : Cx G p s m args meth c cX3_stuckVanes 4 RX3 "stuckVanes" (some .int) := X
  have hx := X.1
  have hb := X.2.1
  unfold f_X3_stuckVanes at hf
  obtain ⟨H, hHe⟩ : ∃ z, z = s.heap := ⟨_, rfl⟩
  obtain ⟨locs, hLe⟩ : ∃ z, z = ([] : List Loc) := ⟨_, rfl⟩
  rw [← hHe, ← hLe] at hH
  rw [← hHe, ← hLe]
  refine lv_iconst (v := 0) hx hb dX3_stuckVanes_0 (by decide) ?_
  refine lv_istore_n (lv' := [(2, .int (0 : Int32)), (0, .ref x0), (1, .ref x1)]) hx hb dX3_stuckVanes_1 rfl hl (by decide) rfl (fun ls hl => ?_)
  refine lv_iconst (v := 0) hx hb dX3_stuckVanes_2 (by decide) ?_
  refine lv_istore_n (lv' := [(3, .int (0 : Int32)), (2, .int (0 : Int32)), (0, .ref x0), (1, .ref x1)]) hx hb dX3_stuckVanes_3 rfl hl (by decide) rfl (fun ls hl => ?_)
  exact w_X3_stuckVanes_b4 l X LF x0 x1 (0 : Int32) (0 : Int32) h H locs ls hH (lv_sub hl [2, 3, 1, 0] rfl) hf
set_option maxRecDepth 100000 in
set_option maxHeartbeats 4000000 in
theorem c_X4_init (l : Launch) (G : GE) (x0 : Nat) (x1 : Nat) (x2 : Int32) (x3 : Int32) (h : PH) (rr : Unit) (hh : PH) (hf : f_X4_init G x0 x1 x2 x3 h = some (rr, hh)) : Ct l yX4_init cX4_init 4 none rm_X4_init G [.ref x0, .ref x1, .int x2, .int x3] h none hh := by
  refine Ct.of (plainFor_of_name (by decide)) (Nat.le_of_ble_eq_true rfl) ?_
  intro p e s m args below meth c ls X hH hl
  have hl : lv_has ls 4 [(0, .ref x0), (1, .ref x1), (2, .int x2), (3, .int x3)] := hl
  have X : Cx G p s m args meth c cX4_init 4 RX4 "<init>" none := X
  have hx := X.1
  have hb := X.2.1
  unfold f_X4_init at hf
  obtain ⟨H, hHe⟩ : ∃ z, z = s.heap := ⟨_, rfl⟩
  obtain ⟨locs, hLe⟩ : ∃ z, z = ([] : List Loc) := ⟨_, rfl⟩
  rw [← hHe, ← hLe] at hH
  rw [← hHe, ← hLe]
  refine lv_aload_n hx hb dX4_init_0 rfl (lv_at hl 0 rfl) ?_
  refine p_oinit X m_545 m_63 m_64 hl.1 dX4_init_1 (by decide) (Nat.le_of_ble_eq_true rfl) ?_
  refine lv_aload_n hx hb dX4_init_4 rfl (lv_at hl 0 rfl) ?_
  refine lv_aload_n hx hb dX4_init_5 rfl (lv_at hl 1 rfl) ?_
  refine p_put X hH fp_RX4_9 rfl rfl hf dX4_init_6 (fun h H locs hH hf => ?_)
  refine lv_aload_n hx hb dX4_init_9 rfl (lv_at hl 0 rfl) ?_
  refine lv_iload_n hx hb dX4_init_10 rfl (lv_at hl 2 rfl) ?_
  refine p_put X hH fp_RX4_15 rfl rfl hf dX4_init_11 (fun h H locs hH hf => ?_)
  refine lv_aload_n hx hb dX4_init_14 rfl (lv_at hl 0 rfl) ?_
  refine lv_iload_n hx hb dX4_init_15 rfl (lv_at hl 3 rfl) ?_
  refine p_put X hH fp_RX4_19 rfl rfl hf dX4_init_16 (fun h H locs hH hf => ?_)
  exact p_vret X hH hf (by decide) (by decide) dX4_init_19
set_option maxRecDepth 100000 in
set_option maxHeartbeats 4000000 in
theorem c_X4_tell (l : Launch) (G : GE) (x0 : Nat) (x1 : Int32) (x2 : Nat) (h : PH) (rr : Int32) (hh : PH) (hf : f_X4_tell G x0 x1 x2 h = some (rr, hh)) : Ct l yX4_tell cX4_tell 3 (some .int) rm_X4_tell G [.ref x0, .int x1, .ref x2] h (some (.int rr)) hh := by
  refine Ct.of (plainFor_of_name (by decide)) (Nat.le_of_ble_eq_true rfl) ?_
  intro p e s m args below meth c ls X hH hl
  have hl : lv_has ls 3 [(0, .ref x0), (1, .int x1), (2, .ref x2)] := hl
  have X : Cx G p s m args meth c cX4_tell 3 RX4 "tell" (some .int) := X
  have hx := X.1
  have hb := X.2.1
  unfold f_X4_tell at hf
  obtain ⟨H, hHe⟩ : ∃ z, z = s.heap := ⟨_, rfl⟩
  obtain ⟨locs, hLe⟩ : ∃ z, z = ([] : List Loc) := ⟨_, rfl⟩
  rw [← hHe, ← hLe] at hH
  rw [← hHe, ← hLe]
  refine lv_iload_n hx hb dX4_tell_0 rfl (lv_at hl 1 rfl) ?_
  by_cases g1 : x1 = (0 : Int32)
  · rw [if_pos g1] at hf
    refine p_tin X dX4_tell_1 g1 (by decide) (by decide) rfl (tgt := 60) (by decide) ?_
    refine lv_aload_n hx hb dX4_tell_60 rfl (lv_at hl 0 rfl) ?_
    refine p_getR X hH fg_RX4_9 hf dX4_tell_61 (fun v2 _ hf => ?_)
    refine p_getI X hH fg_RX4_34 hf dX4_tell_64 (fun v3 _ hf => ?_)
    exact p_iret X hH hf (by decide) (by decide) dX4_tell_67
  rw [if_neg g1] at hf
  by_cases g4 : x1 = (1 : Int32)
  · rw [if_pos g4] at hf
    refine p_tin X dX4_tell_1 g4 (by decide) (by decide) rfl (tgt := 68) (by decide) ?_
    refine lv_aload_n hx hb dX4_tell_68 rfl (lv_at hl 0 rfl) ?_
    refine p_getR X hH fg_RX4_9 hf dX4_tell_69 (fun v5 _ hf => ?_)
    refine p_getI X hH fg_RX4_39 hf dX4_tell_72 (fun v6 _ hf => ?_)
    exact p_iret X hH hf (by decide) (by decide) dX4_tell_75
  rw [if_neg g4] at hf
  by_cases g7 : x1 = (2 : Int32)
  · rw [if_pos g7] at hf
    refine p_tin X dX4_tell_1 g7 (by decide) (by decide) rfl (tgt := 76) (by decide) ?_
    refine lv_aload_n hx hb dX4_tell_76 rfl (lv_at hl 0 rfl) ?_
    refine p_getR X hH fg_RX4_9 hf dX4_tell_77 (fun v8 _ hf => ?_)
    refine p_getI X hH fg_RX4_42 hf dX4_tell_80 (fun v9 _ hf => ?_)
    exact p_iret X hH hf (by decide) (by decide) dX4_tell_83
  rw [if_neg g7] at hf
  by_cases g10 : x1 = (3 : Int32)
  · rw [if_pos g10] at hf
    refine p_tin X dX4_tell_1 g10 (by decide) (by decide) rfl (tgt := 84) (by decide) ?_
    refine lv_aload_n hx hb dX4_tell_84 rfl (lv_at hl 0 rfl) ?_
    refine p_getR X hH fg_RX4_9 hf dX4_tell_85 (fun v11 _ hf => ?_)
    refine p_getI X hH fg_RX4_45 hf dX4_tell_88 (fun v12 _ hf => ?_)
    exact p_iret X hH hf (by decide) (by decide) dX4_tell_91
  rw [if_neg g10] at hf
  by_cases g13 : x1 = (4 : Int32)
  · rw [if_pos g13] at hf
    refine p_tin X dX4_tell_1 g13 (by decide) (by decide) rfl (tgt := 92) (by decide) ?_
    refine lv_aload_n hx hb dX4_tell_92 rfl (lv_at hl 0 rfl) ?_
    refine p_getI X hH fg_RX4_15 hf dX4_tell_93 (fun v14 _ hf => ?_)
    exact p_iret X hH hf (by decide) (by decide) dX4_tell_96
  rw [if_neg g13] at hf
  by_cases g15 : x1 = (5 : Int32)
  · rw [if_pos g15] at hf
    refine p_tin X dX4_tell_1 g15 (by decide) (by decide) rfl (tgt := 97) (by decide) ?_
    refine lv_aload_n hx hb dX4_tell_97 rfl (lv_at hl 0 rfl) ?_
    refine p_getI X hH fg_RX4_22 hf dX4_tell_98 (fun v16 _ hf => ?_)
    exact p_iret X hH hf (by decide) (by decide) dX4_tell_101
  rw [if_neg g15] at hf
  by_cases g17 : x1 = (6 : Int32)
  · rw [if_pos g17] at hf
    refine p_tin X dX4_tell_1 g17 (by decide) (by decide) rfl (tgt := 102) (by decide) ?_
    refine lv_aload_n hx hb dX4_tell_102 rfl (lv_at hl 0 rfl) ?_
    refine p_getI X hH fg_RX4_19 hf dX4_tell_103 (fun v18 _ hf => ?_)
    exact p_iret X hH hf (by decide) (by decide) dX4_tell_106
  rw [if_neg g17] at hf
  by_cases g19 : x1 = (7 : Int32)
  · rw [if_pos g19] at hf
    refine p_tin X dX4_tell_1 g19 (by decide) (by decide) rfl (tgt := 107) (by decide) ?_
    refine lv_aload_n hx hb dX4_tell_107 rfl (lv_at hl 0 rfl) ?_
    refine p_getI X hH fg_RX4_25 hf dX4_tell_108 (fun v20 _ hf => ?_)
    exact p_iret X hH hf (by decide) (by decide) dX4_tell_111
  rw [if_neg g19] at hf
  by_cases g21 : x1 = (8 : Int32)
  · rw [if_pos g21] at hf
    refine p_tin X dX4_tell_1 g21 (by decide) (by decide) rfl (tgt := 112) (by decide) ?_
    refine lv_aload_n hx hb dX4_tell_112 rfl (lv_at hl 0 rfl) ?_
    refine p_getI X hH fg_RX4_28 hf dX4_tell_113 (fun v22 _ hf => ?_)
    exact p_iret X hH hf (by decide) (by decide) dX4_tell_116
  rw [if_neg g21] at hf
  by_cases g23 : x1 = (9 : Int32)
  · rw [if_pos g23] at hf
    refine p_tin X dX4_tell_1 g23 (by decide) (by decide) rfl (tgt := 117) (by decide) ?_
    refine lv_aload_n hx hb dX4_tell_117 rfl (lv_at hl 0 rfl) ?_
    refine p_cVI (As := []) (b := x0) (rest := []) (ci := 5) X hH rfl hf (fun _ _ e_ => c_X4_partyNumber l G x0 h _ _ e_) mv_X4_partyNumber lk_RX4_48 (by decide) rfl hl.1 (Nat.le_of_ble_eq_true rfl) dX4_tell_118 (c2 := 0) (s2 := 0) (by decide) (fun v24 h H locs hH hf => ?_)
    exact p_iret X hH hf (by decide) (by decide) dX4_tell_121
  rw [if_neg g23] at hf
  by_cases g25 : x1 = (10 : Int32)
  · rw [if_pos g25] at hf
    refine p_tin X dX4_tell_1 g25 (by decide) (by decide) rfl (tgt := 122) (by decide) ?_
    refine lv_aload_n hx hb dX4_tell_122 rfl (lv_at hl 0 rfl) ?_
    refine lv_aload_n hx hb dX4_tell_123 rfl (lv_at hl 2 rfl) ?_
    refine p_cVI (As := [.ref x2]) (b := x0) (rest := []) (ci := 5) X hH rfl hf (fun _ _ e_ => c_X4_windHere l G x0 x2 h _ _ e_) mv_X4_windHere lk_RX4_52 (by decide) rfl hl.1 (Nat.le_of_ble_eq_true rfl) dX4_tell_124 (c2 := 0) (s2 := 0) (by decide) (fun v26 h H locs hH hf => ?_)
    exact p_iret X hH hf (by decide) (by decide) dX4_tell_127
  rw [if_neg g25] at hf
  refine p_tout (N := 10) X dX4_tell_1 (by decide) (fun j hj => by match j, hj with | 0, _ => exact g1 | 1, _ => exact g4 | 2, _ => exact g7 | 3, _ => exact g10 | 4, _ => exact g13 | 5, _ => exact g15 | 6, _ => exact g17 | 7, _ => exact g19 | 8, _ => exact g21 | 9, _ => exact g23 | 10, _ => exact g25 | j + 11, hj => omega) (tgt := 128) (by decide) ?_
  refine lv_aload_n hx hb dX4_tell_128 rfl (lv_at hl 0 rfl) ?_
  refine p_getR X hH fg_RX4_9 hf dX4_tell_129 (fun v27 _ hf => ?_)
  refine lv_aload_n hx hb dX4_tell_132 rfl (lv_at hl 2 rfl) ?_
  refine p_cVI (As := [.ref x2]) (b := v27) (rest := []) (ci := 2) X hH rfl hf (fun _ _ e_ => c_X1_leeOf l G v27 x2 h _ _ e_) mv_X1_leeOf lk_RX4_56 (by decide) rfl hl.1 (Nat.le_of_ble_eq_true rfl) dX4_tell_133 (c2 := 0) (s2 := 0) (by decide) (fun v28 h H locs hH hf => ?_)
  exact p_iret X hH hf (by decide) (by decide) dX4_tell_136
set_option maxRecDepth 100000 in
set_option maxHeartbeats 4000000 in
theorem c_X5_init (l : Launch) (G : GE) (x0 : Nat) (x1 : Int32) (x2 : Int32) (x3 : Int32) (h : PH) (rr : Unit) (hh : PH) (hf : f_X5_init G x0 x1 x2 x3 h = some (rr, hh)) : Ct l yX5_init cX5_init 5 none rm_X5_init G [.ref x0, .int x1, .int x2, .int x3] h none hh := by
  refine Ct.of (plainFor_of_name (by decide)) (Nat.le_of_ble_eq_true rfl) ?_
  intro p e s m args below meth c ls X hH hl
  have hl : lv_has ls 5 [(0, .ref x0), (1, .int x1), (2, .int x2), (3, .int x3)] := hl
  have X : Cx G p s m args meth c cX5_init 5 RX5 "<init>" none := X
  have hx := X.1
  have hb := X.2.1
  unfold f_X5_init at hf
  obtain ⟨H, hHe⟩ : ∃ z, z = s.heap := ⟨_, rfl⟩
  obtain ⟨locs, hLe⟩ : ∃ z, z = ([] : List Loc) := ⟨_, rfl⟩
  rw [← hHe, ← hLe] at hH
  rw [← hHe, ← hLe]
  refine lv_aload_n hx hb dX5_init_0 rfl (lv_at hl 0 rfl) ?_
  refine p_oinit X m_70 m_63 m_64 hl.1 dX5_init_1 (by decide) (Nat.le_of_ble_eq_true rfl) ?_
  refine lv_aload_n hx hb dX5_init_4 rfl (lv_at hl 0 rfl) ?_
  refine lv_iload_n hx hb dX5_init_5 rfl (lv_at hl 1 rfl) ?_
  refine p_put X hH fp_RX5_9 rfl rfl hf dX5_init_6 (fun h H locs hH hf => ?_)
  refine lv_aload_n hx hb dX5_init_9 rfl (lv_at hl 0 rfl) ?_
  refine lv_iload_n hx hb dX5_init_10 rfl (lv_at hl 2 rfl) ?_
  refine p_put X hH fp_RX5_15 rfl rfl hf dX5_init_11 (fun h H locs hH hf => ?_)
  refine lv_aload_n hx hb dX5_init_14 rfl (lv_at hl 0 rfl) ?_
  refine lv_iload_n hx hb dX5_init_15 rfl (lv_at hl 3 rfl) ?_
  refine p_putZ X hH fp_RX5_18 hf dX5_init_16 (fun h H locs hH hf => ?_)
  refine lv_iload_n hx hb dX5_init_19 rfl (lv_at hl 1 rfl) ?_
  refine lv_bipush (v := 8) hx hb dX5_init_20 (by decide) ?_
  refine lv_iadd hx hb dX5_init_22 ?_
  refine lv_bipush (v := 16) hx hb dX5_init_23 (by decide) ?_
  refine lv_irem hx hb dX5_init_25 (by decide) ?_
  refine lv_istore (lv' := [(4, .int ((x1 + (8 : Int32)) - (x1 + (8 : Int32)) / (16 : Int32) * (16 : Int32))), (0, .ref x0), (1, .int x1), (2, .int x2), (3, .int x3)]) hx hb dX5_init_26 hl (by decide) rfl (fun ls hl => ?_)
  refine lv_aload_n hx hb dX5_init_28 rfl (lv_at hl 1 rfl) ?_
  refine lv_iload hx hb dX5_init_29 (lv_at hl 0 rfl) ?_
  refine lv_iconst (v := 1) hx hb dX5_init_31 (by decide) ?_
  refine lv_iadd hx hb dX5_init_32 ?_
  refine lv_iconst (v := 2) hx hb dX5_init_33 (by decide) ?_
  refine lv_idiv hx hb dX5_init_34 (by decide) ?_
  refine lv_bipush (v := 8) hx hb dX5_init_35 (by decide) ?_
  refine lv_irem hx hb dX5_init_37 (by decide) ?_
  refine p_put X hH fp_RX5_22 rfl rfl hf dX5_init_38 (fun h H locs hH hf => ?_)
  exact p_vret X hH hf (by decide) (by decide) dX5_init_41
set_option maxRecDepth 100000 in
set_option maxHeartbeats 4000000 in
theorem w_X5_tell_b50 {G : GE} {p : Program} (l : Launch) {e : Env} {s : State} {m : MethodId} {args : Array Value} {below : List Frame} {meth : Method} {c : Code} {rr : Int32} {hh : PH} (X : Cx G p s m args meth c cX5_tell 2 RX5 "tell" (some .int)) (t0 : Int32) (h : PH) (H : Heap) (locs : List Loc) (ls : Array Slot) (hH : Hx G s h H locs) (hl : lv_has ls 2 []) (hf : f_X5_tell_b50 G t0 h = some (rr, hh)) : W p l e rm_X5_tell s m args below meth c H locs 0 0 (Fq G (some (.int rr)) hh below args s rm_X5_tell.cells rm_X5_tell.slots) (F0 m 50 ls [.int t0]) := by
  have hx := X.1
  have hb := X.2.1
  unfold f_X5_tell_b50 at hf
  exact p_iret X hH hf (by decide) (by decide) dX5_tell_50
set_option maxRecDepth 100000 in
set_option maxHeartbeats 4000000 in
theorem c_X5_tell (l : Launch) (G : GE) (x0 : Nat) (x1 : Int32) (h : PH) (rr : Int32) (hh : PH) (hf : f_X5_tell G x0 x1 h = some (rr, hh)) : Ct l yX5_tell cX5_tell 2 (some .int) rm_X5_tell G [.ref x0, .int x1] h (some (.int rr)) hh := by
  refine Ct.of (plainFor_of_name (by decide)) (Nat.le_of_ble_eq_true rfl) ?_
  intro p e s m args below meth c ls X hH hl
  have hl : lv_has ls 2 [(0, .ref x0), (1, .int x1)] := hl
  have X : Cx G p s m args meth c cX5_tell 2 RX5 "tell" (some .int) := X
  have hx := X.1
  have hb := X.2.1
  unfold f_X5_tell at hf
  obtain ⟨H, hHe⟩ : ∃ z, z = s.heap := ⟨_, rfl⟩
  obtain ⟨locs, hLe⟩ : ∃ z, z = ([] : List Loc) := ⟨_, rfl⟩
  rw [← hHe, ← hLe] at hH
  rw [← hHe, ← hLe]
  refine lv_iload_n hx hb dX5_tell_0 rfl (lv_at hl 1 rfl) ?_
  by_cases g1 : x1 = (0 : Int32)
  · rw [if_pos g1] at hf
    refine lv_lookup hx hb dX5_tell_1 (by decide) (off := 27) (by rw [g1]; rfl) (tgt := 28) (by decide) ?_
    refine lv_aload_n hx hb dX5_tell_28 rfl (lv_at hl 0 rfl) ?_
    refine p_getI X hH fg_RX5_9 hf dX5_tell_29 (fun v2 _ hf => ?_)
    exact p_iret X hH hf (by decide) (by decide) dX5_tell_32
  rw [if_neg g1] at hf
  by_cases g3 : x1 = (1 : Int32)
  · rw [if_pos g3] at hf
    refine lv_lookup hx hb dX5_tell_1 (by decide) (off := 32) (by rw [g3]; rfl) (tgt := 33) (by decide) ?_
    refine lv_aload_n hx hb dX5_tell_33 rfl (lv_at hl 0 rfl) ?_
    refine p_getI X hH fg_RX5_15 hf dX5_tell_34 (fun v4 _ hf => ?_)
    exact p_iret X hH hf (by decide) (by decide) dX5_tell_37
  rw [if_neg g3] at hf
  refine lv_lookup hx hb dX5_tell_1 (by decide) (off := 37) ((lv_osw (k := (0 : Int32)) (a := 0) g1 (by decide)).trans ((lv_osw (k := (1 : Int32)) (a := 1) g3 (by decide)).trans rfl)) (tgt := 38) (by decide) ?_
  refine lv_aload_n hx hb dX5_tell_38 rfl (lv_at hl 0 rfl) ?_
  refine p_getI X hH fg_RX5_18 hf dX5_tell_39 (fun v5 _ hf => ?_)
  refine p_if_eq X hf dX5_tell_42 (tgt := 49) (by decide) (fun _ hf => ?_) (fun _ hf => ?_)
  · refine lv_iconst (v := 0) hx hb dX5_tell_49 (by decide) ?_
    exact w_X5_tell_b50 l X (0 : Int32) h H locs ls hH (lv_sub hl [] rfl) hf
  · refine lv_iconst (v := 1) hx hb dX5_tell_45 (by decide) ?_
    refine lv_goto (tgt := 50) hx hb dX5_tell_46 (by decide) ?_
    exact w_X5_tell_b50 l X (1 : Int32) h H locs ls hH (lv_sub hl [] rfl) hf
