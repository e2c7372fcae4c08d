/-! ===== walks (printed by program) ===== -/
set_option maxRecDepth 100000 in
set_option maxHeartbeats 4000000 in
theorem w_X6_isVane_b23 {G : GE} {p : Program} (l : Launch) {e : Env} {s : State} {m : MethodId} {args : Array Value} {below : List Frame} {meth : Method} {c : Code} {rr : Int32} {hh : PH} (X : Cx G p s m args meth c cX6_isVane 2 RX6 "isVane" (some .boolean)) (t0 : Int32) (h : PH) (H : Heap) (locs : List Loc) (ls : Array Slot) (hH : Hx G s h H locs) (hl : lv_has ls 2 []) (hf : f_X6_isVane_b23 G t0 h = some (rr, hh)) : W p l e rm_X6_isVane s m args below meth c H locs 0 0 (Fq G (some (.int rr)) hh below args s rm_X6_isVane.cells rm_X6_isVane.slots) (F0 m 23 ls [.int t0]) := by
  have hx := X.1
  have hb := X.2.1
  unfold f_X6_isVane_b23 at hf
  exact p_zret X hH hf (by decide) (by decide) dX6_isVane_23
set_option maxRecDepth 100000 in
set_option maxHeartbeats 4000000 in
theorem w_X6_isVane_b22 {G : GE} {p : Program} (l : Launch) {e : Env} {s : State} {m : MethodId} {args : Array Value} {below : List Frame} {meth : Method} {c : Code} {rr : Int32} {hh : PH} (X : Cx G p s m args meth c cX6_isVane 2 RX6 "isVane" (some .boolean))  (h : PH) (H : Heap) (locs : List Loc) (ls : Array Slot) (hH : Hx G s h H locs) (hl : lv_has ls 2 []) (hf : f_X6_isVane_b22 G  h = some (rr, hh)) : W p l e rm_X6_isVane s m args below meth c H locs 0 0 (Fq G (some (.int rr)) hh below args s rm_X6_isVane.cells rm_X6_isVane.slots) (F0 m 22 ls []) := by
  have hx := X.1
  have hb := X.2.1
  unfold f_X6_isVane_b22 at hf
  refine lv_iconst (v := 0) hx hb dX6_isVane_22 (by decide) ?_
  exact w_X6_isVane_b23 l X (0 : Int32) h H locs ls hH (lv_sub hl [] rfl) hf
set_option maxRecDepth 100000 in
set_option maxHeartbeats 4000000 in
theorem c_X6_isVane (l : Launch) (G : GE) (x0 : Nat) (x1 : Int32) (h : PH) (rr : Int32) (hh : PH) (hf : f_X6_isVane G x0 x1 h = some (rr, hh)) : Ct l yX6_isVane cX6_isVane 2 (some .boolean) rm_X6_isVane G [.ref x0, .int x1] h (some (.int rr)) hh := by
  refine Ct.of (plainFor_of_name (by decide)) (Nat.le_of_ble_eq_true rfl) ?_
  intro p e s m args below meth c ls X hH hl
  have hl : lv_has ls 2 [(0, .ref x0), (1, .int x1)] := hl
  have X : Cx G p s m args meth c cX6_isVane 2 RX6 "isVane" (some .boolean) := X
  have hx := X.1
  have hb := X.2.1
  unfold f_X6_isVane at hf
  obtain ⟨H, hHe⟩ : ∃ z, z = s.heap := ⟨_, rfl⟩
  obtain ⟨locs, hLe⟩ : ∃ z, z = ([] : List Loc) := ⟨_, rfl⟩
  rw [← hHe, ← hLe] at hH
  rw [← hHe, ← hLe]
  refine lv_iload_n hx hb dX6_isVane_0 rfl (lv_at hl 1 rfl) ?_
  refine p_if_lt X hf dX6_isVane_1 (tgt := 22) (by decide) (fun _ hf => ?_) (fun _ hf => ?_)
  · exact w_X6_isVane_b22 l X  h H locs ls hH (lv_sub hl [] rfl) hf
  · refine lv_iload_n hx hb dX6_isVane_4 rfl (lv_at hl 1 rfl) ?_
    refine lv_aload_n hx hb dX6_isVane_5 rfl (lv_at hl 0 rfl) ?_
    refine p_getR X hH fg_RX6_34 hf dX6_isVane_6 (fun v1 _ hf => ?_)
    refine p_getR X hH fg_RX6_95 hf dX6_isVane_9 (fun v2 _ hf => ?_)
    refine p_cVI (As := []) (b := v2) (rest := [.int x1]) (ci := 0) X hH rfl hf (fun _ _ e_ => c_Jx4a65c_size_8abf5 l G v2 h _ _ e_) mv_Jx4a65c_size_8abf5 lk_RX6_60 (by decide) rfl hl.1 (Nat.le_of_ble_eq_true rfl) dX6_isVane_12 (c2 := 0) (s2 := 0) (by decide) (fun v3 h H locs hH hf => ?_)
    refine p_icmp_ge X hf dX6_isVane_15 (tgt := 22) (by decide) (fun _ hf => ?_) (fun _ hf => ?_)
    · exact w_X6_isVane_b22 l X  h H locs ls hH (lv_sub hl [] rfl) hf
    · refine lv_iconst (v := 1) hx hb dX6_isVane_18 (by decide) ?_
      refine lv_goto (tgt := 23) hx hb dX6_isVane_19 (by decide) ?_
      exact w_X6_isVane_b23 l X (1 : Int32) h H locs ls hH (lv_sub hl [] rfl) hf
set_option maxRecDepth 100000 in
set_option maxHeartbeats 4000000 in
theorem c_X6_oil (l : Launch) (hfl : l.stackTraces = false) (G : GE) (x0 : Nat) (x1 : Int32) (h : PH) (rr : (Sum Int32 String)) (hh : PH) (hf : f_X6_oil G x0 x1 h = some (rr, hh)) : Xt l yX6_oil cX6_oil 4 rm_X6_oil G [.ref x0, .int x1] h rr hh := by
  refine Xt.of (by decide) (Nat.le_of_ble_eq_true rfl) ?_
  intro p e s m args below meth c ls X hex hH hl
  have hl : lv_has ls 4 [(0, .ref x0), (1, .int x1)] := hl
  have X : Cx G p s m args meth c cX6_oil 4 RX6 "oil" (some .int) := X
  have hx := X.1
  have hb := X.2.1
  unfold f_X6_oil at hf
  obtain ⟨H, hHe⟩ : ∃ z, z = s.heap := ⟨_, rfl⟩
  obtain ⟨locs, hLe⟩ : ∃ z, z = ([] : List Loc) := ⟨_, rfl⟩
  rw [← hHe, ← hLe] at hH
  rw [← hHe, ← hLe]
  refine lv_aload_n hx hb dX6_oil_0 rfl (lv_at hl 0 rfl) ?_
  refine lv_iload_n hx hb dX6_oil_1 rfl (lv_at hl 1 rfl) ?_
  refine p_cVI (As := [.int x1]) (b := x0) (rest := []) (ci := 7) X hH rfl hf (fun _ _ e_ => c_X6_isVane l G x0 x1 h _ _ e_) mv_X6_isVane lk_RX6_114 (by decide) rfl hl.1 (Nat.le_of_ble_eq_true rfl) dX6_oil_2 (c2 := 0) (s2 := 0) (by decide) (fun v1 h H locs hH hf => ?_)
  refine p_if_ne X hf dX6_oil_5 (tgt := 18) (by decide) (fun _ hf => ?_) (fun _ hf => ?_)
  · refine lv_aload_n hx hb dX6_oil_18 rfl (lv_at hl 0 rfl) ?_
    refine p_getR X hH fg_RX6_34 hf dX6_oil_19 (fun v2 _ hf => ?_)
    refine p_getR X hH fg_RX6_95 hf dX6_oil_22 (fun v3 _ hf => ?_)
    refine lv_iload_n hx hb dX6_oil_25 rfl (lv_at hl 1 rfl) ?_
    refine p_cVR (As := [.int x1]) (b := v3) (rest := []) (ci := 0) X hH rfl hf (fun _ _ e_ => c_Jx4a65c_get_915e3 l G v3 x1 h _ _ e_) mv_Jx4a65c_get_915e3 lk_RX6_119 (by decide) rfl hl.1 (Nat.le_of_ble_eq_true rfl) dX6_oil_26 (c2 := 0) (s2 := 0) (by decide) (fun v4 h H locs hH hf => ?_)
    refine p_cast X hH (ci := 5) rfl m_261 hf dX6_oil_29 (fun _ hf => ?_)
    refine lv_astore_n (lv' := [(2, .ref v4), (0, .ref x0), (1, .int x1)]) hx hb dX6_oil_32 rfl hl (by decide) rfl (fun ls hl => ?_)
    refine lv_aload_n hx hb dX6_oil_33 rfl (lv_at hl 0 rfl) ?_
    refine p_getI X hH fg_RX6_123 hf dX6_oil_34 (fun v5 _ hf => ?_)
    refine lv_istore_n (lv' := [(3, .int v5), (2, .ref v4), (0, .ref x0), (1, .int x1)]) hx hb dX6_oil_37 rfl hl (by decide) rfl (fun ls hl => ?_)
    refine lv_aload_n hx hb dX6_oil_38 rfl (lv_at hl 1 rfl) ?_
    refine p_cVV (As := []) (b := v4) (rest := []) (ci := 5) X hH rfl hf (fun _ _ e_ => c_X4_takeOil l G v4 h _ _ e_) mv_X4_takeOil lk_RX6_127 (by decide) rfl hl.1 (Nat.le_of_ble_eq_true rfl) dX6_oil_39 (c2 := 0) (s2 := 0) (by decide) (fun _ h H locs hH hf => ?_)
    refine lv_iload_n hx hb dX6_oil_42 rfl (lv_at hl 0 rfl) ?_
    exact p_xret X hH hf (by decide) (by decide) dX6_oil_43
  · exact p_thr_ioo X hH (strs_117) hf hfl hex hl.1 (by decide) (by decide) (by decide) (by decide) (by decide) (by decide) dX6_oil_8 dX6_oil_11 dX6_oil_12 dX6_oil_14 dX6_oil_17
set_option maxRecDepth 100000 in
set_option maxHeartbeats 4000000 in
theorem c_X6_turn (l : Launch) (hfl : l.stackTraces = false) (G : GE) (x0 : Nat) (x1 : Int32) (x2 : Int32) (h : PH) (rr : (Sum Int32 String)) (hh : PH) (hf : f_X6_turn G x0 x1 x2 h = some (rr, hh)) : Xt l yX6_turn cX6_turn 5 rm_X6_turn G [.ref x0, .int x1, .int x2] h rr hh := by
  refine Xt.of (by decide) (Nat.le_of_ble_eq_true rfl) ?_
  intro p e s m args below meth c ls X hex hH hl
  have hl : lv_has ls 5 [(0, .ref x0), (1, .int x1), (2, .int x2)] := hl
  have X : Cx G p s m args meth c cX6_turn 5 RX6 "turn" (some .int) := X
  have hx := X.1
  have hb := X.2.1
  unfold f_X6_turn at hf
  obtain ⟨H, hHe⟩ : ∃ z, z = s.heap := ⟨_, rfl⟩
  obtain ⟨locs, hLe⟩ : ∃ z, z = ([] : List Loc) := ⟨_, rfl⟩
  rw [← hHe, ← hLe] at hH
  rw [← hHe, ← hLe]
  refine lv_aload_n hx hb dX6_turn_0 rfl (lv_at hl 0 rfl) ?_
  refine lv_iload_n hx hb dX6_turn_1 rfl (lv_at hl 1 rfl) ?_
  refine p_cVI (As := [.int x1]) (b := x0) (rest := []) (ci := 7) X hH rfl hf (fun _ _ e_ => c_X6_isVane l G x0 x1 h _ _ e_) mv_X6_isVane lk_RX6_114 (by decide) rfl hl.1 (Nat.le_of_ble_eq_true rfl) dX6_turn_2 (c2 := 0) (s2 := 0) (by decide) (fun v1 h H locs hH hf => ?_)
  refine p_if_ne X hf dX6_turn_5 (tgt := 18) (by decide) (fun _ hf => ?_) (fun _ hf => ?_)
  · refine lv_iload_n hx hb dX6_turn_18 rfl (lv_at hl 2 rfl) ?_
    refine p_cSI (As := [.int x2]) (rest := []) X hH hf (fun _ _ e_ => c_X6_isDirection l G x2 h _ _ e_) ms_X6_isDirection lk_RX6_45 (by decide) rfl hl.1 (Nat.le_of_ble_eq_true rfl) dX6_turn_19 (c2 := 0) (s2 := 0) (by decide) (fun v2 h H locs hH hf => ?_)
    refine p_if_ne X hf dX6_turn_22 (tgt := 35) (by decide) (fun _ hf => ?_) (fun _ hf => ?_)
    · refine lv_aload_n hx hb dX6_turn_35 rfl (lv_at hl 0 rfl) ?_
      refine p_getR X hH fg_RX6_34 hf dX6_turn_36 (fun v3 _ hf => ?_)
      refine p_getR X hH fg_RX6_95 hf dX6_turn_39 (fun v4 _ hf => ?_)
      refine lv_iload_n hx hb dX6_turn_42 rfl (lv_at hl 1 rfl) ?_
      refine p_cVR (As := [.int x1]) (b := v4) (rest := []) (ci := 0) X hH rfl hf (fun _ _ e_ => c_Jx4a65c_get_915e3 l G v4 x1 h _ _ e_) mv_Jx4a65c_get_915e3 lk_RX6_119 (by decide) rfl hl.1 (Nat.le_of_ble_eq_true rfl) dX6_turn_43 (c2 := 0) (s2 := 0) (by decide) (fun v5 h H locs hH hf => ?_)
      refine p_cast X hH (ci := 5) rfl m_261 hf dX6_turn_46 (fun _ hf => ?_)
      refine lv_astore_n (lv' := [(3, .ref v5), (0, .ref x0), (1, .int x1), (2, .int x2)]) hx hb dX6_turn_49 rfl hl (by decide) rfl (fun ls hl => ?_)
      refine lv_aload_n hx hb dX6_turn_50 rfl (lv_at hl 0 rfl) ?_
      refine p_getI X hH fg_RX6_132 hf dX6_turn_51 (fun v6 _ hf => ?_)
      refine p_if_le X hf dX6_turn_54 (tgt := 67) (by decide) (fun _ hf => ?_) (fun _ hf => ?_)
      · refine lv_aload_n hx hb dX6_turn_67 rfl (lv_at hl 0 rfl) ?_
        refine p_getI X hH fg_RX6_137 hf dX6_turn_68 (fun v7 _ hf => ?_)
        refine lv_istore (lv' := [(4, .int v7), (3, .ref v5), (0, .ref x0), (1, .int x1), (2, .int x2)]) hx hb dX6_turn_71 hl (by decide) rfl (fun ls hl => ?_)
        refine lv_aload_n hx hb dX6_turn_73 rfl (lv_at hl 1 rfl) ?_
        refine lv_iload_n hx hb dX6_turn_74 rfl (lv_at hl 4 rfl) ?_
        refine p_put X hH fp_RX6_137 rfl rfl hf dX6_turn_75 (fun h H locs hH hf => ?_)
        refine lv_aload_n hx hb dX6_turn_78 rfl (lv_at hl 1 rfl) ?_
        refine lv_iconst (v := 0) hx hb dX6_turn_79 (by decide) ?_
        refine p_put X hH fp_RX6_140 rfl rfl hf dX6_turn_80 (fun h H locs hH hf => ?_)
        refine lv_iload hx hb dX6_turn_83 (lv_at hl 0 rfl) ?_
        exact p_xret X hH hf (by decide) (by decide) dX6_turn_85
      · exact p_thr_ise X hH (strs_135) hf hfl hex hl.1 (by decide) (by decide) (by decide) (by decide) (by decide) (by decide) dX6_turn_57 dX6_turn_60 dX6_turn_61 dX6_turn_63 dX6_turn_66
    · exact p_thr_iae X hH (strs_130) hf hfl hex hl.1 (by decide) (by decide) (by decide) (by decide) (by decide) (by decide) dX6_turn_25 dX6_turn_28 dX6_turn_29 dX6_turn_31 dX6_turn_34
  · exact p_thr_ioo X hH (strs_117) hf hfl hex hl.1 (by decide) (by decide) (by decide) (by decide) (by decide) (by decide) dX6_turn_8 dX6_turn_11 dX6_turn_12 dX6_turn_14 dX6_turn_17
set_option maxRecDepth 100000 in
set_option maxHeartbeats 4000000 in
theorem c_X6_vane (l : Launch) (hfl : l.stackTraces = false) (G : GE) (x0 : Nat) (x1 : Int32) (x2 : Int32) (h : PH) (rr : (Sum Int32 String)) (hh : PH) (hf : f_X6_vane G x0 x1 x2 h = some (rr, hh)) : Xt l yX6_vane cX6_vane 3 rm_X6_vane G [.ref x0, .int x1, .int x2] h rr hh := by
  refine Xt.of (by decide) (Nat.le_of_ble_eq_true rfl) ?_
  intro p e s m args below meth c ls X hex hH hl
  have hl : lv_has ls 3 [(0, .ref x0), (1, .int x1), (2, .int x2)] := hl
  have X : Cx G p s m args meth c cX6_vane 3 RX6 "vane" (some .int) := X
  have hx := X.1
  have hb := X.2.1
  unfold f_X6_vane at hf
  obtain ⟨H, hHe⟩ : ∃ z, z = s.heap := ⟨_, rfl⟩
  obtain ⟨locs, hLe⟩ : ∃ z, z = ([] : List Loc) := ⟨_, rfl⟩
  rw [← hHe, ← hLe] at hH
  rw [← hHe, ← hLe]
  refine lv_aload_n hx hb dX6_vane_0 rfl (lv_at hl 0 rfl) ?_
  refine lv_iload_n hx hb dX6_vane_1 rfl (lv_at hl 1 rfl) ?_
  refine p_cVI (As := [.int x1]) (b := x0) (rest := []) (ci := 7) X hH rfl hf (fun _ _ e_ => c_X6_isVane l G x0 x1 h _ _ e_) mv_X6_isVane lk_RX6_114 (by decide) rfl hl.1 (Nat.le_of_ble_eq_true rfl) dX6_vane_2 (c2 := 0) (s2 := 0) (by decide) (fun v1 h H locs hH hf => ?_)
  refine p_if_ne X hf dX6_vane_5 (tgt := 18) (by decide) (fun _ hf => ?_) (fun _ hf => ?_)
  · refine lv_iload_n hx hb dX6_vane_18 rfl (lv_at hl 2 rfl) ?_
    refine lv_iconst (v := 0) hx hb dX6_vane_19 (by decide) ?_
    refine lv_bipush (v := 11) hx hb dX6_vane_20 (by decide) ?_
    refine p_cSI (As := [.int x2, .int (0 : Int32), .int (11 : Int32)]) (rest := []) X hH hf (fun _ _ e_ => c_X6_isWithin l G x2 (0 : Int32) (11 : Int32) h _ _ e_) ms_X6_isWithin lk_RX6_49 (by decide) rfl hl.1 (Nat.le_of_ble_eq_true rfl) dX6_vane_22 (c2 := 0) (s2 := 0) (by decide) (fun v2 h H locs hH hf => ?_)
    refine p_if_ne X hf dX6_vane_25 (tgt := 38) (by decide) (fun _ hf => ?_) (fun _ hf => ?_)
    · refine lv_aload_n hx hb dX6_vane_38 rfl (lv_at hl 0 rfl) ?_
      refine p_getR X hH fg_RX6_34 hf dX6_vane_39 (fun v3 _ hf => ?_)
      refine p_getR X hH fg_RX6_95 hf dX6_vane_42 (fun v4 _ hf => ?_)
      refine lv_iload_n hx hb dX6_vane_45 rfl (lv_at hl 1 rfl) ?_
      refine p_cVR (As := [.int x1]) (b := v4) (rest := []) (ci := 0) X hH rfl hf (fun _ _ e_ => c_Jx4a65c_get_915e3 l G v4 x1 h _ _ e_) mv_Jx4a65c_get_915e3 lk_RX6_119 (by decide) rfl hl.1 (Nat.le_of_ble_eq_true rfl) dX6_vane_46 (c2 := 0) (s2 := 0) (by decide) (fun v5 h H locs hH hf => ?_)
      refine p_cast X hH (ci := 5) rfl m_261 hf dX6_vane_49 (fun _ hf => ?_)
      refine lv_iload_n hx hb dX6_vane_52 rfl (lv_at hl 2 rfl) ?_
      refine lv_aload_n hx hb dX6_vane_53 rfl (lv_at hl 0 rfl) ?_
      refine lv_aload_n hx hb dX6_vane_54 rfl (lv_at hl 0 rfl) ?_
      refine p_getI X hH fg_RX6_145 hf dX6_vane_55 (fun v6 _ hf => ?_)
      refine p_cVR (As := [.int v6]) (b := x0) (rest := [.int x2, .ref v5]) (ci := 7) X hH rfl hf (fun _ _ e_ => c_X6_windAt l G x0 v6 h _ _ e_) mv_X6_windAt lk_RX6_79 (by decide) rfl hl.1 (Nat.le_of_ble_eq_true rfl) dX6_vane_58 (c2 := 0) (s2 := 0) (by decide) (fun v7 h H locs hH hf => ?_)
      refine p_cVI (As := [.int x2, .ref v7]) (b := v5) (rest := []) (ci := 5) X hH rfl hf (fun _ _ e_ => c_X4_tell l G v5 x2 v7 h _ _ e_) mv_X4_tell lk_RX6_148 (by decide) rfl hl.1 (Nat.le_of_ble_eq_true rfl) dX6_vane_61 (c2 := 0) (s2 := 0) (by decide) (fun v8 h H locs hH hf => ?_)
      exact p_xret X hH hf (by decide) (by decide) dX6_vane_64
    · exact p_thr_ioo X hH (strs_143) hf hfl hex hl.1 (by decide) (by decide) (by decide) (by decide) (by decide) (by decide) dX6_vane_28 dX6_vane_31 dX6_vane_32 dX6_vane_34 dX6_vane_37
  · exact p_thr_ioo X hH (strs_117) hf hfl hex hl.1 (by decide) (by decide) (by decide) (by decide) (by decide) (by decide) dX6_vane_8 dX6_vane_11 dX6_vane_12 dX6_vane_14 dX6_vane_17
set_option maxRecDepth 100000 in
set_option maxHeartbeats 4000000 in
theorem w_X6_difference_b14 {G : GE} {p : Program} (l : Launch) {e : Env} {s : State} {m : MethodId} {args : Array Value} {below : List Frame} {meth : Method} {c : Code} {rr : (Sum Int32 String)} {hh : PH} (X : Cx G p s m args meth c cX6_difference 3 RX6 "difference" (some .int)) (hfl : l.stackTraces = false) (hex : ∀ x ∈ c.exceptionTable.toList, False)  (h : PH) (H : Heap) (locs : List Loc) (ls : Array Slot) (hH : Hx G s h H locs) (hl : lv_has ls 3 []) (hf : f_X6_difference_b14 G  h = some (rr, hh)) : W p l e rm_X6_difference s m args below meth c H locs 0 0 (Xq G rr hh below args s rm_X6_difference.cells rm_X6_difference.slots) (F0 m 14 ls []) := by
  have hx := X.1
  have hb := X.2.1
  unfold f_X6_difference_b14 at hf
  exact p_thr_iae X hH (strs_130) hf hfl hex hl.1 (by decide) (by decide) (by decide) (by decide) (by decide) (by decide) dX6_difference_14 dX6_difference_17 dX6_difference_18 dX6_difference_20 dX6_difference_23
set_option maxRecDepth 100000 in
set_option maxHeartbeats 4000000 in
theorem c_X6_difference (l : Launch) (hfl : l.stackTraces = false) (G : GE) (x0 : Nat) (x1 : Int32) (x2 : Int32) (h : PH) (rr : (Sum Int32 String)) (hh : PH) (hf : f_X6_difference G x0 x1 x2 h = some (rr, hh)) : Xt l yX6_difference cX6_difference 3 rm_X6_difference G [.ref x0, .int x1, .int x2] h rr hh := by
  refine Xt.of (by decide) (Nat.le_of_ble_eq_true rfl) ?_
  intro p e s m args below meth c ls X hex hH hl
  have hl : lv_has ls 3 [(0, .ref x0), (1, .int x1), (2, .int x2)] := hl
  have X : Cx G p s m args meth c cX6_difference 3 RX6 "difference" (some .int) := X
  have hx := X.1
  have hb := X.2.1
  unfold f_X6_difference at hf
  obtain ⟨H, hHe⟩ : ∃ z, z = s.heap := ⟨_, rfl⟩
  obtain ⟨locs, hLe⟩ : ∃ z, z = ([] : List Loc) := ⟨_, rfl⟩
  rw [← hHe, ← hLe] at hH
  rw [← hHe, ← hLe]
  refine lv_iload_n hx hb dX6_difference_0 rfl (lv_at hl 1 rfl) ?_
  refine p_cSI (As := [.int x1]) (rest := []) X hH hf (fun _ _ e_ => c_X6_isDirection l G x1 h _ _ e_) ms_X6_isDirection lk_RX6_45 (by decide) rfl hl.1 (Nat.le_of_ble_eq_true rfl) dX6_difference_1 (c2 := 0) (s2 := 0) (by decide) (fun v1 h H locs hH hf => ?_)
  refine p_if_eq X hf dX6_difference_4 (tgt := 14) (by decide) (fun _ hf => ?_) (fun _ hf => ?_)
  · exact w_X6_difference_b14 l X hfl hex  h H locs ls hH (lv_sub hl [] rfl) hf
  · refine lv_iload_n hx hb dX6_difference_7 rfl (lv_at hl 2 rfl) ?_
    refine p_cSI (As := [.int x2]) (rest := []) X hH hf (fun _ _ e_ => c_X6_isDirection l G x2 h _ _ e_) ms_X6_isDirection lk_RX6_45 (by decide) rfl hl.1 (Nat.le_of_ble_eq_true rfl) dX6_difference_8 (c2 := 0) (s2 := 0) (by decide) (fun v2 h H locs hH hf => ?_)
    refine p_if_ne X hf dX6_difference_11 (tgt := 24) (by decide) (fun _ hf => ?_) (fun _ hf => ?_)
    · refine lv_iload_n hx hb dX6_difference_24 rfl (lv_at hl 1 rfl) ?_
      refine lv_iload_n hx hb dX6_difference_25 rfl (lv_at hl 2 rfl) ?_
      refine p_cSI (As := [.int x1, .int x2]) (rest := []) X hH hf (fun _ _ e_ => c_X6_steps l G x1 x2 h _ _ e_) ms_X6_steps lk_RX6_151 (by decide) rfl hl.1 (Nat.le_of_ble_eq_true rfl) dX6_difference_26 (c2 := 0) (s2 := 0) (by decide) (fun v3 h H locs hH hf => ?_)
      exact p_xret X hH hf (by decide) (by decide) dX6_difference_29
    · exact w_X6_difference_b14 l X hfl hex  h H locs ls hH (lv_sub hl [] rfl) hf
set_option maxRecDepth 100000 in
set_option maxHeartbeats 4000000 in
theorem w_X6_move_b37 {G : GE} {p : Program} (l : Launch) {e : Env} {s : State} {m : MethodId} {args : Array Value} {below : List Frame} {meth : Method} {c : Code} {rr : (Sum Int32 String)} {hh : PH} (X : Cx G p s m args meth c cX6_move 6 RX6 "move" (some .int)) (hfl : l.stackTraces = false) (hex : ∀ x ∈ c.exceptionTable.toList, False)  (h : PH) (H : Heap) (locs : List Loc) (ls : Array Slot) (hH : Hx G s h H locs) (hl : lv_has ls 6 []) (hf : f_X6_move_b37 G  h = some (rr, hh)) : W p l e rm_X6_move s m args below meth c H locs 0 0 (Xq G rr hh below args s rm_X6_move.cells rm_X6_move.slots) (F0 m 37 ls []) := by
  have hx := X.1
  have hb := X.2.1
  unfold f_X6_move_b37 at hf
  exact p_thr_iae X hH (strs_155) hf hfl hex hl.1 (by decide) (by decide) (by decide) (by decide) (by decide) (by decide) dX6_move_37 dX6_move_40 dX6_move_41 dX6_move_43 dX6_move_46
set_option maxRecDepth 100000 in
set_option maxHeartbeats 4000000 in
theorem c_X6_move (l : Launch) (hfl : l.stackTraces = false) (G : GE) (x0 : Nat) (x1 : Int32) (x2 : Int32) (x3 : Int32) (x4 : Int32) (h : PH) (rr : (Sum Int32 String)) (hh : PH) (hf : f_X6_move G x0 x1 x2 x3 x4 h = some (rr, hh)) : Xt l yX6_move cX6_move 6 rm_X6_move G [.ref x0, .int x1, .int x2, .int x3, .int x4] h rr hh := by
  refine Xt.of (by decide) (Nat.le_of_ble_eq_true rfl) ?_
  intro p e s m args below meth c ls X hex hH hl
  have hl : lv_has ls 6 [(0, .ref x0), (1, .int x1), (2, .int x2), (3, .int x3), (4, .int x4)] := hl
  have X : Cx G p s m args meth c cX6_move 6 RX6 "move" (some .int) := X
  have hx := X.1
  have hb := X.2.1
  unfold f_X6_move at hf
  obtain ⟨H, hHe⟩ : ∃ z, z = s.heap := ⟨_, rfl⟩
  obtain ⟨locs, hLe⟩ : ∃ z, z = ([] : List Loc) := ⟨_, rfl⟩
  rw [← hHe, ← hLe] at hH
  rw [← hHe, ← hLe]
  refine lv_iload_n hx hb dX6_move_0 rfl (lv_at hl 1 rfl) ?_
  refine p_cSI (As := [.int x1]) (rest := []) X hH hf (fun _ _ e_ => c_X6_isDirection l G x1 h _ _ e_) ms_X6_isDirection lk_RX6_45 (by decide) rfl hl.1 (Nat.le_of_ble_eq_true rfl) dX6_move_1 (c2 := 0) (s2 := 0) (by decide) (fun v1 h H locs hH hf => ?_)
  refine p_if_eq X hf dX6_move_4 (tgt := 37) (by decide) (fun _ hf => ?_) (fun _ hf => ?_)
  · exact w_X6_move_b37 l X hfl hex  h H locs ls hH (lv_sub hl [] rfl) hf
  · refine lv_iload_n hx hb dX6_move_7 rfl (lv_at hl 2 rfl) ?_
    refine lv_iconst (v := 0) hx hb dX6_move_8 (by decide) ?_
    refine lv_bipush (v := 7) hx hb dX6_move_9 (by decide) ?_
    refine p_cSI (As := [.int x2, .int (0 : Int32), .int (7 : Int32)]) (rest := []) X hH hf (fun _ _ e_ => c_X6_isWithin l G x2 (0 : Int32) (7 : Int32) h _ _ e_) ms_X6_isWithin lk_RX6_49 (by decide) rfl hl.1 (Nat.le_of_ble_eq_true rfl) dX6_move_11 (c2 := 0) (s2 := 0) (by decide) (fun v2 h H locs hH hf => ?_)
    refine p_if_eq X hf dX6_move_14 (tgt := 37) (by decide) (fun _ hf => ?_) (fun _ hf => ?_)
    · exact w_X6_move_b37 l X hfl hex  h H locs ls hH (lv_sub hl [] rfl) hf
    · refine lv_iload_n hx hb dX6_move_17 rfl (lv_at hl 3 rfl) ?_
      refine lv_iconst (v := 0) hx hb dX6_move_18 (by decide) ?_
      refine lv_bipush (v := 99) hx hb dX6_move_19 (by decide) ?_
      refine p_cSI (As := [.int x3, .int (0 : Int32), .int (99 : Int32)]) (rest := []) X hH hf (fun _ _ e_ => c_X6_isWithin l G x3 (0 : Int32) (99 : Int32) h _ _ e_) ms_X6_isWithin lk_RX6_49 (by decide) rfl hl.1 (Nat.le_of_ble_eq_true rfl) dX6_move_21 (c2 := 0) (s2 := 0) (by decide) (fun v3 h H locs hH hf => ?_)
      refine p_if_eq X hf dX6_move_24 (tgt := 37) (by decide) (fun _ hf => ?_) (fun _ hf => ?_)
      · exact w_X6_move_b37 l X hfl hex  h H locs ls hH (lv_sub hl [] rfl) hf
      · refine lv_iload hx hb dX6_move_27 (lv_at hl 4 rfl) ?_
        refine lv_iconst (v := 0) hx hb dX6_move_29 (by decide) ?_
        refine lv_iconst (v := 3) hx hb dX6_move_30 (by decide) ?_
        refine p_cSI (As := [.int x4, .int (0 : Int32), .int (3 : Int32)]) (rest := []) X hH hf (fun _ _ e_ => c_X6_isWithin l G x4 (0 : Int32) (3 : Int32) h _ _ e_) ms_X6_isWithin lk_RX6_49 (by decide) rfl hl.1 (Nat.le_of_ble_eq_true rfl) dX6_move_31 (c2 := 0) (s2 := 0) (by decide) (fun v4 h H locs hH hf => ?_)
        refine p_if_ne X hf dX6_move_34 (tgt := 47) (by decide) (fun _ hf => ?_) (fun _ hf => ?_)
        · refine lv_aload_n hx hb dX6_move_47 rfl (lv_at hl 0 rfl) ?_
          refine p_getR X hH fg_RX6_25 hf dX6_move_48 (fun v5 _ hf => ?_)
          refine p_cVI (As := []) (b := v5) (rest := []) (ci := 0) X hH rfl hf (fun _ _ e_ => c_Jx4a65c_size_8abf5 l G v5 h _ _ e_) mv_Jx4a65c_size_8abf5 lk_RX6_60 (by decide) rfl hl.1 (Nat.le_of_ble_eq_true rfl) dX6_move_51 (c2 := 0) (s2 := 0) (by decide) (fun v6 h H locs hH hf => ?_)
          refine lv_bipush (v := 12) hx hb dX6_move_54 (by decide) ?_
          refine p_icmp_lt X hf dX6_move_56 (tgt := 69) (by decide) (fun _ hf => ?_) (fun _ hf => ?_)
          · refine lv_aload_n hx hb dX6_move_69 rfl (lv_at hl 0 rfl) ?_
            refine p_getR X hH fg_RX6_25 hf dX6_move_70 (fun v7 _ hf => ?_)
            refine p_cVI (As := []) (b := v7) (rest := []) (ci := 0) X hH rfl hf (fun _ _ e_ => c_Jx4a65c_size_8abf5 l G v7 h _ _ e_) mv_Jx4a65c_size_8abf5 lk_RX6_60 (by decide) rfl hl.1 (Nat.le_of_ble_eq_true rfl) dX6_move_73 (c2 := 0) (s2 := 0) (by decide) (fun v8 h H locs hH hf => ?_)
            refine lv_istore (lv' := [(5, .int v8), (0, .ref x0), (1, .int x1), (2, .int x2), (3, .int x3), (4, .int x4)]) hx hb dX6_move_76 hl (by decide) rfl (fun ls hl => ?_)
            refine lv_aload_n hx hb dX6_move_78 rfl (lv_at hl 1 rfl) ?_
            refine p_getR X hH fg_RX6_25 hf dX6_move_79 (fun v9 _ hf => ?_)
            refine p_new X hH fn_RX6_159 (by decide) (by decide) hf dX6_move_82 (fun q10 h H hH hf => ?_)
            refine W.widen (k := 1) (n := 7) (by decide) (by decide) ?_
            refine lv_dup hx hb dX6_move_85 rfl ?_
            refine lv_iload hx hb dX6_move_86 (lv_at hl 0 rfl) ?_
            refine lv_iload_n hx hb dX6_move_88 rfl (lv_at hl 2 rfl) ?_
            refine lv_iload_n hx hb dX6_move_89 rfl (lv_at hl 3 rfl) ?_
            refine lv_iload_n hx hb dX6_move_90 rfl (lv_at hl 4 rfl) ?_
            refine lv_iload hx hb dX6_move_91 (lv_at hl 5 rfl) ?_
            refine p_cIV (As := [.int v8, .int x1, .int x2, .int x3, .int x4]) (b := q10) (rest := [.ref q10, .ref v9]) X hH hf (fun _ _ e_ => c_X2_init l G q10 v8 x1 x2 x3 x4 h _ _ e_) mi_X2_init lk_RX6_161 (by decide) rfl hl.1 (Nat.le_of_ble_eq_true rfl) dX6_move_93 (c2 := 1) (s2 := 7) (by decide) (fun _ h H locs hH hf => ?_)
            refine p_cVI (As := [.ref q10]) (b := v9) (rest := []) (ci := 0) X hH rfl hf (fun _ _ e_ => c_Jx4a65c_add_9ea2d l G v9 q10 h _ _ e_) mv_Jx4a65c_add_9ea2d lk_RX6_41 (by decide) rfl hl.1 (Nat.le_of_ble_eq_true rfl) dX6_move_96 (c2 := 2) (s2 := 55) (by decide) (fun v11 h H locs hH hf => ?_)
            refine lv_pop hx hb dX6_move_99 rfl ?_
            refine lv_iload hx hb dX6_move_100 (lv_at hl 0 rfl) ?_
            exact p_xret X hH hf (by decide) (by decide) dX6_move_102
          · exact p_thr_ise X hH (strs_157) hf hfl hex hl.1 (by decide) (by decide) (by decide) (by decide) (by decide) (by decide) dX6_move_59 dX6_move_62 dX6_move_63 dX6_move_65 dX6_move_68
        · exact w_X6_move_b37 l X hfl hex  h H locs ls hH (lv_sub hl [] rfl) hf
set_option maxRecDepth 100000 in
set_option maxHeartbeats 4000000 in
theorem w_X6_isMotion_b20 {G : GE} {p : Program} (l : Launch) {e : Env} {s : State} {m : MethodId} {args : Array Value} {below : List Frame} {meth : Method} {c : Code} {rr : Int32} {hh : PH} (X : Cx G p s m args meth c cX6_isMotion 2 RX6 "isMotion" (some .boolean)) (t0 : Int32) (h : PH) (H : Heap) (locs : List Loc) (ls : Array Slot) (hH : Hx G s h H locs) (hl : lv_has ls 2 []) (hf : f_X6_isMotion_b20 G t0 h = some (rr, hh)) : W p l e rm_X6_isMotion s m args below meth c H locs 0 0 (Fq G (some (.int rr)) hh below args s rm_X6_isMotion.cells rm_X6_isMotion.slots) (F0 m 20 ls [.int t0]) := by
  have hx := X.1
  have hb := X.2.1
  unfold f_X6_isMotion_b20 at hf
  exact p_zret X hH hf (by decide) (by decide) dX6_isMotion_20
set_option maxRecDepth 100000 in
set_option maxHeartbeats 4000000 in
theorem w_X6_isMotion_b19 {G : GE} {p : Program} (l : Launch) {e : Env} {s : State} {m : MethodId} {args : Array Value} {below : List Frame} {meth : Method} {c : Code} {rr : Int32} {hh : PH} (X : Cx G p s m args meth c cX6_isMotion 2 RX6 "isMotion" (some .boolean))  (h : PH) (H : Heap) (locs : List Loc) (ls : Array Slot) (hH : Hx G s h H locs) (hl : lv_has ls 2 []) (hf : f_X6_isMotion_b19 G  h = some (rr, hh)) : W p l e rm_X6_isMotion s m args below meth c H locs 0 0 (Fq G (some (.int rr)) hh below args s rm_X6_isMotion.cells rm_X6_isMotion.slots) (F0 m 19 ls []) := by
  have hx := X.1
  have hb := X.2.1
  unfold f_X6_isMotion_b19 at hf
  refine lv_iconst (v := 0) hx hb dX6_isMotion_19 (by decide) ?_
  exact w_X6_isMotion_b20 l X (0 : Int32) h H locs ls hH (lv_sub hl [] rfl) hf
set_option maxRecDepth 100000 in
set_option maxHeartbeats 4000000 in
theorem c_X6_isMotion (l : Launch) (G : GE) (x0 : Nat) (x1 : Int32) (h : PH) (rr : Int32) (hh : PH) (hf : f_X6_isMotion G x0 x1 h = some (rr, hh)) : Ct l yX6_isMotion cX6_isMotion 2 (some .boolean) rm_X6_isMotion G [.ref x0, .int x1] h (some (.int rr)) hh := by
  refine Ct.of (plainFor_of_name (by decide)) (Nat.le_of_ble_eq_true rfl) ?_
  intro p e s m args below meth c ls X hH hl
  have hl : lv_has ls 2 [(0, .ref x0), (1, .int x1)] := hl
  have X : Cx G p s m args meth c cX6_isMotion 2 RX6 "isMotion" (some .boolean) := X
  have hx := X.1
  have hb := X.2.1
  unfold f_X6_isMotion at hf
  obtain ⟨H, hHe⟩ : ∃ z, z = s.heap := ⟨_, rfl⟩
  obtain ⟨locs, hLe⟩ : ∃ z, z = ([] : List Loc) := ⟨_, rfl⟩
  rw [← hHe, ← hLe] at hH
  rw [← hHe, ← hLe]
  refine lv_iload_n hx hb dX6_isMotion_0 rfl (lv_at hl 1 rfl) ?_
  refine p_if_lt X hf dX6_isMotion_1 (tgt := 19) (by decide) (fun _ hf => ?_) (fun _ hf => ?_)
  · exact w_X6_isMotion_b19 l X  h H locs ls hH (lv_sub hl [] rfl) hf
  · refine lv_iload_n hx hb dX6_isMotion_4 rfl (lv_at hl 1 rfl) ?_
    refine lv_aload_n hx hb dX6_isMotion_5 rfl (lv_at hl 0 rfl) ?_
    refine p_getR X hH fg_RX6_25 hf dX6_isMotion_6 (fun v1 _ hf => ?_)
    refine p_cVI (As := []) (b := v1) (rest := [.int x1]) (ci := 0) X hH rfl hf (fun _ _ e_ => c_Jx4a65c_size_8abf5 l G v1 h _ _ e_) mv_Jx4a65c_size_8abf5 lk_RX6_60 (by decide) rfl hl.1 (Nat.le_of_ble_eq_true rfl) dX6_isMotion_9 (c2 := 0) (s2 := 0) (by decide) (fun v2 h H locs hH hf => ?_)
    refine p_icmp_ge X hf dX6_isMotion_12 (tgt := 19) (by decide) (fun _ hf => ?_) (fun _ hf => ?_)
    · exact w_X6_isMotion_b19 l X  h H locs ls hH (lv_sub hl [] rfl) hf
    · refine lv_iconst (v := 1) hx hb dX6_isMotion_15 (by decide) ?_
      refine lv_goto (tgt := 20) hx hb dX6_isMotion_16 (by decide) ?_
      exact w_X6_isMotion_b20 l X (1 : Int32) h H locs ls hH (lv_sub hl [] rfl) hf
set_option maxRecDepth 100000 in
set_option maxHeartbeats 4000000 in
theorem c_X6_put (l : Launch) (hfl : l.stackTraces = false) (G : GE) (x0 : Nat) (x1 : Int32) (x2 : Int32) (h : PH) (rr : (Sum Int32 String)) (hh : PH) (hf : f_X6_put G x0 x1 x2 h = some (rr, hh)) : Xt l yX6_put cX6_put 3 rm_X6_put G [.ref x0, .int x1, .int x2] h rr hh := by
  refine Xt.of (by decide) (Nat.le_of_ble_eq_true rfl) ?_
  intro p e s m args below meth c ls X hex hH hl
  have hl : lv_has ls 3 [(0, .ref x0), (1, .int x1), (2, .int x2)] := hl
  have X : Cx G p s m args meth c cX6_put 3 RX6 "put" (some .int) := X
  have hx := X.1
  have hb := X.2.1
  unfold f_X6_put at hf
  obtain ⟨H, hHe⟩ : ∃ z, z = s.heap := ⟨_, rfl⟩
  obtain ⟨locs, hLe⟩ : ∃ z, z = ([] : List Loc) := ⟨_, rfl⟩
  rw [← hHe, ← hLe] at hH
  rw [← hHe, ← hLe]
  refine lv_aload_n hx hb dX6_put_0 rfl (lv_at hl 0 rfl) ?_
  refine lv_iload_n hx hb dX6_put_1 rfl (lv_at hl 1 rfl) ?_
  refine p_cVI (As := [.int x1]) (b := x0) (rest := []) (ci := 7) X hH rfl hf (fun _ _ e_ => c_X6_isMotion l G x0 x1 h _ _ e_) mv_X6_isMotion lk_RX6_164 (by decide) rfl hl.1 (Nat.le_of_ble_eq_true rfl) dX6_put_2 (c2 := 0) (s2 := 0) (by decide) (fun v1 h H locs hH hf => ?_)
  refine p_if_ne X hf dX6_put_5 (tgt := 18) (by decide) (fun _ hf => ?_) (fun _ hf => ?_)
  · refine lv_iload_n hx hb dX6_put_18 rfl (lv_at hl 2 rfl) ?_
    refine lv_aload_n hx hb dX6_put_19 rfl (lv_at hl 0 rfl) ?_
    refine p_getI X hH fg_RX6_145 hf dX6_put_20 (fun v2 _ hf => ?_)
    refine lv_sipush (v := 2000) hx hb dX6_put_23 (by decide) ?_
    refine p_cSI (As := [.int x2, .int v2, .int (2000 : Int32)]) (rest := []) X hH hf (fun _ _ e_ => c_X6_isWithin l G x2 v2 (2000 : Int32) h _ _ e_) ms_X6_isWithin lk_RX6_49 (by decide) rfl hl.1 (Nat.le_of_ble_eq_true rfl) dX6_put_26 (c2 := 0) (s2 := 0) (by decide) (fun v3 h H locs hH hf => ?_)
    refine p_if_ne X hf dX6_put_29 (tgt := 42) (by decide) (fun _ hf => ?_) (fun _ hf => ?_)
    · refine lv_aload_n hx hb dX6_put_42 rfl (lv_at hl 0 rfl) ?_
      refine p_getR X hH fg_RX6_28 hf dX6_put_43 (fun v4 _ hf => ?_)
      refine p_cVI (As := []) (b := v4) (rest := []) (ci := 0) X hH rfl hf (fun _ _ e_ => c_Jx4a65c_size_8abf5 l G v4 h _ _ e_) mv_Jx4a65c_size_8abf5 lk_RX6_60 (by decide) rfl hl.1 (Nat.le_of_ble_eq_true rfl) dX6_put_46 (c2 := 0) (s2 := 0) (by decide) (fun v5 h H locs hH hf => ?_)
      refine lv_bipush (v := 20) hx hb dX6_put_49 (by decide) ?_
      refine p_icmp_lt X hf dX6_put_51 (tgt := 64) (by decide) (fun _ hf => ?_) (fun _ hf => ?_)
      · refine lv_aload_n hx hb dX6_put_64 rfl (lv_at hl 0 rfl) ?_
        refine p_getR X hH fg_RX6_28 hf dX6_put_65 (fun v6 _ hf => ?_)
        refine p_new X hH fn_RX6_173 (by decide) (by decide) hf dX6_put_68 (fun q7 h H hH hf => ?_)
        refine W.widen (k := 1) (n := 2) (by decide) (by decide) ?_
        refine lv_dup hx hb dX6_put_71 rfl ?_
        refine lv_aload_n hx hb dX6_put_72 rfl (lv_at hl 0 rfl) ?_
        refine p_getR X hH fg_RX6_25 hf dX6_put_73 (fun v8 _ hf => ?_)
        refine lv_iload_n hx hb dX6_put_76 rfl (lv_at hl 1 rfl) ?_
        refine p_cVR (As := [.int x1]) (b := v8) (rest := [.ref q7, .ref q7, .ref v6]) (ci := 0) X hH rfl hf (fun _ _ e_ => c_Jx4a65c_get_915e3 l G v8 x1 h _ _ e_) mv_Jx4a65c_get_915e3 lk_RX6_119 (by decide) rfl hl.1 (Nat.le_of_ble_eq_true rfl) dX6_put_77 (c2 := 1) (s2 := 2) (by decide) (fun v9 h H locs hH hf => ?_)
        refine p_cast X hH (ci := 3) rfl m_327 hf dX6_put_80 (fun _ hf => ?_)
        refine lv_iload_n hx hb dX6_put_83 rfl (lv_at hl 2 rfl) ?_
        refine p_cIV (As := [.ref v9, .int x2]) (b := q7) (rest := [.ref q7, .ref v6]) X hH hf (fun _ _ e_ => c_X0_init l G q7 v9 x2 h _ _ e_) mi_X0_init lk_RX6_175 (by decide) rfl hl.1 (Nat.le_of_ble_eq_true rfl) dX6_put_84 (c2 := 1) (s2 := 2) (by decide) (fun _ h H locs hH hf => ?_)
        refine p_cVI (As := [.ref q7]) (b := v6) (rest := []) (ci := 0) X hH rfl hf (fun _ _ e_ => c_Jx4a65c_add_9ea2d l G v6 q7 h _ _ e_) mv_Jx4a65c_add_9ea2d lk_RX6_41 (by decide) rfl hl.1 (Nat.le_of_ble_eq_true rfl) dX6_put_87 (c2 := 2) (s2 := 50) (by decide) (fun v10 h H locs hH hf => ?_)
        refine lv_pop hx hb dX6_put_90 rfl ?_
        refine lv_aload_n hx hb dX6_put_91 rfl (lv_at hl 0 rfl) ?_
        refine p_getR X hH fg_RX6_28 hf dX6_put_92 (fun v11 _ hf => ?_)
        refine p_cVI (As := []) (b := v11) (rest := []) (ci := 0) X hH rfl hf (fun _ _ e_ => c_Jx4a65c_size_8abf5 l G v11 h _ _ e_) mv_Jx4a65c_size_8abf5 lk_RX6_60 (by decide) rfl hl.1 (Nat.le_of_ble_eq_true rfl) dX6_put_95 (c2 := 2) (s2 := 50) (by decide) (fun v12 h H locs hH hf => ?_)
        exact p_xret X hH hf (by decide) (by decide) dX6_put_98
      · exact p_thr_ise X hH (strs_171) hf hfl hex hl.1 (by decide) (by decide) (by decide) (by decide) (by decide) (by decide) dX6_put_54 dX6_put_57 dX6_put_58 dX6_put_60 dX6_put_63
    · exact p_thr_iae X hH (strs_169) hf hfl hex hl.1 (by decide) (by decide) (by decide) (by decide) (by decide) (by decide) dX6_put_32 dX6_put_35 dX6_put_36 dX6_put_38 dX6_put_41
  · exact p_thr_ioo X hH (strs_167) hf hfl hex hl.1 (by decide) (by decide) (by decide) (by decide) (by decide) (by decide) dX6_put_8 dX6_put_11 dX6_put_12 dX6_put_14 dX6_put_17
set_option maxRecDepth 100000 in
set_option maxHeartbeats 4000000 in
theorem c_X6_motion (l : Launch) (hfl : l.stackTraces = false) (G : GE) (x0 : Nat) (x1 : Int32) (x2 : Int32) (h : PH) (rr : (Sum Int32 String)) (hh : PH) (hf : f_X6_motion G x0 x1 x2 h = some (rr, hh)) : Xt l yX6_motion cX6_motion 3 rm_X6_motion G [.ref x0, .int x1, .int x2] h rr hh := by
  refine Xt.of (by decide) (Nat.le_of_ble_eq_true rfl) ?_
  intro p e s m args below meth c ls X hex hH hl
  have hl : lv_has ls 3 [(0, .ref x0), (1, .int x1), (2, .int x2)] := hl
  have X : Cx G p s m args meth c cX6_motion 3 RX6 "motion" (some .int) := X
  have hx := X.1
  have hb := X.2.1
  unfold f_X6_motion at hf
  obtain ⟨H, hHe⟩ : ∃ z, z = s.heap := ⟨_, rfl⟩
  obtain ⟨locs, hLe⟩ : ∃ z, z = ([] : List Loc) := ⟨_, rfl⟩
  rw [← hHe, ← hLe] at hH
  rw [← hHe, ← hLe]
  refine lv_aload_n hx hb dX6_motion_0 rfl (lv_at hl 0 rfl) ?_
  refine lv_iload_n hx hb dX6_motion_1 rfl (lv_at hl 1 rfl) ?_
  refine p_cVI (As := [.int x1]) (b := x0) (rest := []) (ci := 7) X hH rfl hf (fun _ _ e_ => c_X6_isMotion l G x0 x1 h _ _ e_) mv_X6_isMotion lk_RX6_164 (by decide) rfl hl.1 (Nat.le_of_ble_eq_true rfl) dX6_motion_2 (c2 := 0) (s2 := 0) (by decide) (fun v1 h H locs hH hf => ?_)
  refine p_if_ne X hf dX6_motion_5 (tgt := 18) (by decide) (fun _ hf => ?_) (fun _ hf => ?_)
  · refine lv_iload_n hx hb dX6_motion_18 rfl (lv_at hl 2 rfl) ?_
    refine lv_iconst (v := 0) hx hb dX6_motion_19 (by decide) ?_
    refine lv_bipush (v := 8) hx hb dX6_motion_20 (by decide) ?_
    refine p_cSI (As := [.int x2, .int (0 : Int32), .int (8 : Int32)]) (rest := []) X hH hf (fun _ _ e_ => c_X6_isWithin l G x2 (0 : Int32) (8 : Int32) h _ _ e_) ms_X6_isWithin lk_RX6_49 (by decide) rfl hl.1 (Nat.le_of_ble_eq_true rfl) dX6_motion_22 (c2 := 0) (s2 := 0) (by decide) (fun v2 h H locs hH hf => ?_)
    refine p_if_ne X hf dX6_motion_25 (tgt := 38) (by decide) (fun _ hf => ?_) (fun _ hf => ?_)
    · refine lv_aload_n hx hb dX6_motion_38 rfl (lv_at hl 0 rfl) ?_
      refine p_getR X hH fg_RX6_25 hf dX6_motion_39 (fun v3 _ hf => ?_)
      refine lv_iload_n hx hb dX6_motion_42 rfl (lv_at hl 1 rfl) ?_
      refine p_cVR (As := [.int x1]) (b := v3) (rest := []) (ci := 0) X hH rfl hf (fun _ _ e_ => c_Jx4a65c_get_915e3 l G v3 x1 h _ _ e_) mv_Jx4a65c_get_915e3 lk_RX6_119 (by decide) rfl hl.1 (Nat.le_of_ble_eq_true rfl) dX6_motion_43 (c2 := 0) (s2 := 0) (by decide) (fun v4 h H locs hH hf => ?_)
      refine p_cast X hH (ci := 3) rfl m_327 hf dX6_motion_46 (fun _ hf => ?_)
      refine lv_iload_n hx hb dX6_motion_49 rfl (lv_at hl 2 rfl) ?_
      refine lv_aload_n hx hb dX6_motion_50 rfl (lv_at hl 0 rfl) ?_
      refine p_getR X hH fg_RX6_34 hf dX6_motion_51 (fun v5 _ hf => ?_)
      refine p_cVI (As := [.int x2, .ref v5]) (b := v4) (rest := []) (ci := 3) X hH rfl hf (fun _ _ e_ => c_X2_tell l G v4 x2 v5 h _ _ e_) mv_X2_tell lk_RX6_180 (by decide) rfl hl.1 (Nat.le_of_ble_eq_true rfl) dX6_motion_54 (c2 := 0) (s2 := 0) (by decide) (fun v6 h H locs hH hf => ?_)
      exact p_xret X hH hf (by decide) (by decide) dX6_motion_57
    · exact p_thr_ioo X hH (strs_178) hf hfl hex hl.1 (by decide) (by decide) (by decide) (by decide) (by decide) (by decide) dX6_motion_28 dX6_motion_31 dX6_motion_32 dX6_motion_34 dX6_motion_37
  · exact p_thr_ioo X hH (strs_167) hf hfl hex hl.1 (by decide) (by decide) (by decide) (by decide) (by decide) (by decide) dX6_motion_8 dX6_motion_11 dX6_motion_12 dX6_motion_14 dX6_motion_17
set_option maxRecDepth 100000 in
set_option maxHeartbeats 4000000 in
theorem c_X6_stand (l : Launch) (hfl : l.stackTraces = false) (G : GE) (x0 : Nat) (x1 : Int32) (x2 : Int32) (h : PH) (rr : (Sum Int32 String)) (hh : PH) (hf : f_X6_stand G x0 x1 x2 h = some (rr, hh)) : Xt l yX6_stand cX6_stand 3 rm_X6_stand G [.ref x0, .int x1, .int x2] h rr hh := by
  refine Xt.of (by decide) (Nat.le_of_ble_eq_true rfl) ?_
  intro p e s m args below meth c ls X hex hH hl
  have hl : lv_has ls 3 [(0, .ref x0), (1, .int x1), (2, .int x2)] := hl
  have X : Cx G p s m args meth c cX6_stand 3 RX6 "stand" (some .int) := X
  have hx := X.1
  have hb := X.2.1
  unfold f_X6_stand at hf
  obtain ⟨H, hHe⟩ : ∃ z, z = s.heap := ⟨_, rfl⟩
  obtain ⟨locs, hLe⟩ : ∃ z, z = ([] : List Loc) := ⟨_, rfl⟩
  rw [← hHe, ← hLe] at hH
  rw [← hHe, ← hLe]
  refine lv_aload_n hx hb dX6_stand_0 rfl (lv_at hl 0 rfl) ?_
  refine lv_iload_n hx hb dX6_stand_1 rfl (lv_at hl 1 rfl) ?_
  refine p_cVI (As := [.int x1]) (b := x0) (rest := []) (ci := 7) X hH rfl hf (fun _ _ e_ => c_X6_isMotion l G x0 x1 h _ _ e_) mv_X6_isMotion lk_RX6_164 (by decide) rfl hl.1 (Nat.le_of_ble_eq_true rfl) dX6_stand_2 (c2 := 0) (s2 := 0) (by decide) (fun v1 h H locs hH hf => ?_)
  refine p_if_ne X hf dX6_stand_5 (tgt := 18) (by decide) (fun _ hf => ?_) (fun _ hf => ?_)
  · refine lv_aload_n hx hb dX6_stand_18 rfl (lv_at hl 0 rfl) ?_
    refine lv_iload_n hx hb dX6_stand_19 rfl (lv_at hl 2 rfl) ?_
    refine p_cVI (As := [.int x2]) (b := x0) (rest := []) (ci := 7) X hH rfl hf (fun _ _ e_ => c_X6_isVane l G x0 x2 h _ _ e_) mv_X6_isVane lk_RX6_114 (by decide) rfl hl.1 (Nat.le_of_ble_eq_true rfl) dX6_stand_20 (c2 := 0) (s2 := 0) (by decide) (fun v2 h H locs hH hf => ?_)
    refine p_if_ne X hf dX6_stand_23 (tgt := 36) (by decide) (fun _ hf => ?_) (fun _ hf => ?_)
    · refine lv_aload_n hx hb dX6_stand_36 rfl (lv_at hl 0 rfl) ?_
      refine p_getR X hH fg_RX6_25 hf dX6_stand_37 (fun v3 _ hf => ?_)
      refine lv_iload_n hx hb dX6_stand_40 rfl (lv_at hl 1 rfl) ?_
      refine p_cVR (As := [.int x1]) (b := v3) (rest := []) (ci := 0) X hH rfl hf (fun _ _ e_ => c_Jx4a65c_get_915e3 l G v3 x1 h _ _ e_) mv_Jx4a65c_get_915e3 lk_RX6_119 (by decide) rfl hl.1 (Nat.le_of_ble_eq_true rfl) dX6_stand_41 (c2 := 0) (s2 := 0) (by decide) (fun v4 h H locs hH hf => ?_)
      refine p_cast X hH (ci := 3) rfl m_327 hf dX6_stand_44 (fun _ hf => ?_)
      refine lv_aload_n hx hb dX6_stand_47 rfl (lv_at hl 0 rfl) ?_
      refine p_getR X hH fg_RX6_34 hf dX6_stand_48 (fun v5 _ hf => ?_)
      refine p_getR X hH fg_RX6_95 hf dX6_stand_51 (fun v6 _ hf => ?_)
      refine lv_iload_n hx hb dX6_stand_54 rfl (lv_at hl 2 rfl) ?_
      refine p_cVR (As := [.int x2]) (b := v6) (rest := [.ref v4]) (ci := 0) X hH rfl hf (fun _ _ e_ => c_Jx4a65c_get_915e3 l G v6 x2 h _ _ e_) mv_Jx4a65c_get_915e3 lk_RX6_119 (by decide) rfl hl.1 (Nat.le_of_ble_eq_true rfl) dX6_stand_55 (c2 := 0) (s2 := 0) (by decide) (fun v7 h H locs hH hf => ?_)
      refine p_cast X hH (ci := 5) rfl m_261 hf dX6_stand_58 (fun _ hf => ?_)
      refine p_cVI (As := [.ref v7]) (b := v4) (rest := []) (ci := 3) X hH rfl hf (fun _ _ e_ => c_X2_sideOf l G v4 v7 h _ _ e_) mv_X2_sideOf lk_RX6_183 (by decide) rfl hl.1 (Nat.le_of_ble_eq_true rfl) dX6_stand_61 (c2 := 0) (s2 := 0) (by decide) (fun v8 h H locs hH hf => ?_)
      exact p_xret X hH hf (by decide) (by decide) dX6_stand_64
    · exact p_thr_ioo X hH (strs_117) hf hfl hex hl.1 (by decide) (by decide) (by decide) (by decide) (by decide) (by decide) dX6_stand_26 dX6_stand_29 dX6_stand_30 dX6_stand_32 dX6_stand_35
  · exact p_thr_ioo X hH (strs_167) hf hfl hex hl.1 (by decide) (by decide) (by decide) (by decide) (by decide) (by decide) dX6_stand_8 dX6_stand_11 dX6_stand_12 dX6_stand_14 dX6_stand_17
set_option maxRecDepth 100000 in
set_option maxHeartbeats 4000000 in
theorem w_X6_voteAndRain_b107 {G : GE} {p : Program} (l : Launch) {e : Env} {s : State} {m : MethodId} {args : Array Value} {below : List Frame} {meth : Method} {c : Code} {rr : Int32} {hh : PH} (X : Cx G p s m args meth c cX6_voteAndRain 8 RX6 "voteAndRain" (some .int)) (x4 : Int32) (h : PH) (H : Heap) (locs : List Loc) (ls : Array Slot) (hH : Hx G s h H locs) (hl : lv_has ls 8 [(4, .int x4)]) (hf : f_X6_voteAndRain_b107 G x4 h = some (rr, hh)) : W p l e rm_X6_voteAndRain s m args below meth c H locs 0 0 (Fq G (some (.int rr)) hh below args s rm_X6_voteAndRain.cells rm_X6_voteAndRain.slots) (F0 m 107 ls []) := by
  have hx := X.1
  have hb := X.2.1
  unfold f_X6_voteAndRain_b107 at hf
  refine lv_iload hx hb dX6_voteAndRain_107 (lv_at hl 0 rfl) ?_
  exact p_iret X hH hf (by decide) (by decide) dX6_voteAndRain_109
set_option maxRecDepth 100000 in
set_option maxHeartbeats 4000000 in
theorem w_X6_voteAndRain_b86 {G : GE} {p : Program} (l : Launch) {e : Env} {s : State} {m : MethodId} {args : Array Value} {below : List Frame} {meth : Method} {c : Code} {rr : Int32} {hh : PH} (X : Cx G p s m args meth c cX6_voteAndRain 8 RX6 "voteAndRain" (some .int)) (k6 : Nat → Nat → Int32 → Int32 → Int32 → Int32 → PH → Option (Int32 × PH)) (ik6 : ∀ (x0 : Nat) (x1 : Nat) (x2 : Int32) (x3 : Int32) (x4 : Int32) (x5 : Int32) (h : PH) (H : Heap) (locs : List Loc) (ls : Array Slot), Hx G s h H locs → lv_has ls 8 [(0, .ref x0), (1, .ref x1), (2, .int x2), (3, .int x3), (4, .int x4), (5, .int x5)] → k6 x0 x1 x2 x3 x4 x5 h = some (rr, hh) → W p l e rm_X6_voteAndRain s m args below meth c H locs 0 0 (Fq G (some (.int rr)) hh below args s rm_X6_voteAndRain.cells rm_X6_voteAndRain.slots) (F0 m 6 ls [])) (x0 : Nat) (x1 : Nat) (x2 : Int32) (x3 : Int32) (x4 : Int32) (x5 : Int32) (h : PH) (H : Heap) (locs : List Loc) (ls : Array Slot) (hH : Hx G s h H locs) (hl : lv_has ls 8 [(0, .ref x0), (1, .ref x1), (2, .int x2), (3, .int x3), (4, .int x4), (5, .int x5)]) (hf : f_X6_voteAndRain_b86 G k6 x0 x1 x2 x3 x4 x5 h = some (rr, hh)) : W p l e rm_X6_voteAndRain s m args below meth c H locs 0 0 (Fq G (some (.int rr)) hh below args s rm_X6_voteAndRain.cells rm_X6_voteAndRain.slots) (F0 m 86 ls []) := by
  have hx := X.1
  have hb := X.2.1
  unfold f_X6_voteAndRain_b86 at hf
  refine lv_iinc (v := (x5 + (1 : Int32))) (lv' := [(5, .int (x5 + (1 : Int32))), (0, .ref x0), (1, .ref x1), (2, .int x2), (3, .int x3), (4, .int x4)]) hx hb dX6_voteAndRain_86 hl (k := 5) rfl rfl (by decide) rfl (fun ls hl => ?_)
  refine lv_goto (tgt := 6) hx hb dX6_voteAndRain_89 (by decide) ?_
  exact ik6 x0 x1 x2 x3 x4 (x5 + (1 : Int32)) h H locs ls hH (lv_sub hl [1, 2, 3, 4, 5, 0] rfl) hf
set_option maxRecDepth 100000 in
set_option maxHeartbeats 4000000 in
theorem w_X6_voteAndRain_b72 {G : GE} {p : Program} (l : Launch) {e : Env} {s : State} {m : MethodId} {args : Array Value} {below : List Frame} {meth : Method} {c : Code} {rr : Int32} {hh : PH} (X : Cx G p s m args meth c cX6_voteAndRain 8 RX6 "voteAndRain" (some .int)) (k6 : Nat → Nat → Int32 → Int32 → Int32 → Int32 → PH → Option (Int32 × PH)) (ik6 : ∀ (x0 : Nat) (x1 : Nat) (x2 : Int32) (x3 : Int32) (x4 : Int32) (x5 : Int32) (h : PH) (H : Heap) (locs : List Loc) (ls : Array Slot), Hx G s h H locs → lv_has ls 8 [(0, .ref x0), (1, .ref x1), (2, .int x2), (3, .int x3), (4, .int x4), (5, .int x5)] → k6 x0 x1 x2 x3 x4 x5 h = some (rr, hh) → W p l e rm_X6_voteAndRain s m args below meth c H locs 0 0 (Fq G (some (.int rr)) hh below args s rm_X6_voteAndRain.cells rm_X6_voteAndRain.slots) (F0 m 6 ls [])) (x0 : Nat) (x1 : Nat) (x2 : Int32) (x3 : Int32) (x4 : Int32) (x5 : Int32) (x6 : Nat) (x7 : Int32) (h : PH) (H : Heap) (locs : List Loc) (ls : Array Slot) (hH : Hx G s h H locs) (hl : lv_has ls 8 [(0, .ref x0), (1, .ref x1), (2, .int x2), (3, .int x3), (4, .int x4), (5, .int x5), (6, .ref x6), (7, .int x7)]) (hf : f_X6_voteAndRain_b72 G k6 x0 x1 x2 x3 x4 x5 x6 x7 h = some (rr, hh)) : W p l e rm_X6_voteAndRain s m args below meth c H locs 0 0 (Fq G (some (.int rr)) hh below args s rm_X6_voteAndRain.cells rm_X6_voteAndRain.slots) (F0 m 72 ls []) := by
  have hx := X.1
  have hb := X.2.1
  unfold f_X6_voteAndRain_b72 at hf
  refine lv_iload_n hx hb dX6_voteAndRain_72 rfl (lv_at hl 3 rfl) ?_
  refine p_if_eq X hf dX6_voteAndRain_73 (tgt := 86) (by decide) (fun _ hf => ?_) (fun _ hf => ?_)
  · exact w_X6_voteAndRain_b86 l X k6 ik6 x0 x1 x2 x3 x4 x5 h H locs ls hH (lv_sub hl [0, 1, 2, 3, 4, 5] rfl) hf
  · refine lv_aload hx hb dX6_voteAndRain_76 (lv_at hl 6 rfl) ?_
    refine p_getR X hH fg_RX6_257 hf dX6_voteAndRain_78 (fun v11 _ hf => ?_)
    refine lv_iload hx hb dX6_voteAndRain_81 (lv_at hl 7 rfl) ?_
    refine p_cVV (As := [.int x7]) (b := v11) (rest := []) (ci := 3) X hH rfl hf (fun _ _ e_ => c_X2_noteVoting l G v11 x7 h _ _ e_) mv_X2_noteVoting lk_RX6_280 (by decide) rfl hl.1 (Nat.le_of_ble_eq_true rfl) dX6_voteAndRain_83 (c2 := 0) (s2 := 0) (by decide) (fun _ h H locs hH hf => ?_)
    exact w_X6_voteAndRain_b86 l X k6 ik6 x0 x1 x2 x3 x4 x5 h H locs ls hH (lv_sub hl [0, 1, 2, 3, 4, 5] rfl) hf
set_option maxRecDepth 100000 in
set_option maxHeartbeats 4000000 in
theorem w_X6_voteAndRain_b6 {G : GE} {p : Program} (l : Launch) {e : Env} {s : State} {m : MethodId} {args : Array Value} {below : List Frame} {meth : Method} {c : Code} {rr : Int32} {hh : PH} (X : Cx G p s m args meth c cX6_voteAndRain 8 RX6 "voteAndRain" (some .int)) : ∀ (n : Nat) (x0 : Nat) (x1 : Nat) (x2 : Int32) (x3 : Int32) (x4 : Int32) (x5 : Int32) (h : PH) (H : Heap) (locs : List Loc) (ls : Array Slot) (hH : Hx G s h H locs) (hl : lv_has ls 8 [(0, .ref x0), (1, .ref x1), (2, .int x2), (3, .int x3), (4, .int x4), (5, .int x5)]) (hf : f_X6_voteAndRain_b6 G n x0 x1 x2 x3 x4 x5 h = some (rr, hh)), W p l e rm_X6_voteAndRain s m args below meth c H locs 0 0 (Fq G (some (.int rr)) hh below args s rm_X6_voteAndRain.cells rm_X6_voteAndRain.slots) (F0 m 6 ls []) := by
  have hx := X.1
  have hb := X.2.1
  intro n
  induction n with
  | zero =>
    intro x0 x1 x2 x3 x4 x5 h H locs ls hH hl hf
    have hf : (none : Option (Int32 × PH)) = some (rr, hh) := hf
    cases hf
  | succ n ih =>
    intro x0 x1 x2 x3 x4 x5 h H locs ls hH hl hf
    have hf : f_X6_voteAndRain_b6_body G (f_X6_voteAndRain_b6 G n) x0 x1 x2 x3 x4 x5 h = some (rr, hh) := hf
    generalize f_X6_voteAndRain_b6 G n = k6 at hf ih
    have ik6 := ih
    unfold f_X6_voteAndRain_b6_body at hf
    refine lv_iload hx hb dX6_voteAndRain_6 (lv_at hl 5 rfl) ?_
    refine lv_aload_n hx hb dX6_voteAndRain_8 rfl (lv_at hl 0 rfl) ?_
    refine p_getR X hH fg_RX6_28 hf dX6_voteAndRain_9 (fun v1 _ hf => ?_)
    refine p_cVI (As := []) (b := v1) (rest := [.int x5]) (ci := 0) X hH rfl hf (fun _ _ e_ => c_Jx4a65c_size_8abf5 l G v1 h _ _ e_) mv_Jx4a65c_size_8abf5 lk_RX6_60 (by decide) rfl hl.1 (Nat.le_of_ble_eq_true rfl) dX6_voteAndRain_12 (c2 := 0) (s2 := 0) (by decide) (fun v2 h H locs hH hf => ?_)
    refine p_icmp_ge X hf dX6_voteAndRain_15 (tgt := 92) (by decide) (fun _ hf => ?_) (fun _ hf => ?_)
    · refine lv_aload_n hx hb dX6_voteAndRain_92 rfl (lv_at hl 0 rfl) ?_
      refine lv_iload_n hx hb dX6_voteAndRain_93 rfl (lv_at hl 2 rfl) ?_
      refine p_cVR (As := [.int x2]) (b := x0) (rest := []) (ci := 7) X hH rfl hf (fun _ _ e_ => c_X6_windAt l G x0 x2 h _ _ e_) mv_X6_windAt lk_RX6_79 (by decide) rfl hl.1 (Nat.le_of_ble_eq_true rfl) dX6_voteAndRain_94 (c2 := 0) (s2 := 0) (by decide) (fun v3 h H locs hH hf => ?_)
      refine p_getI X hH fg_RX6_284 hf dX6_voteAndRain_97 (fun v4 _ hf => ?_)
      refine p_if_eq X hf dX6_voteAndRain_100 (tgt := 107) (by decide) (fun _ hf => ?_) (fun _ hf => ?_)
      · exact w_X6_voteAndRain_b107 l X x4 h H locs ls hH (lv_sub hl [4] rfl) hf
      · refine lv_aload_n hx hb dX6_voteAndRain_103 rfl (lv_at hl 1 rfl) ?_
        refine p_cVV (As := []) (b := x1) (rest := []) (ci := 4) X hH rfl hf (fun _ _ e_ => c_X3_rainOnAll l G x1 h _ _ e_) mv_X3_rainOnAll lk_RX6_288 (by decide) rfl hl.1 (Nat.le_of_ble_eq_true rfl) dX6_voteAndRain_104 (c2 := 0) (s2 := 0) (by decide) (fun _ h H locs hH hf => ?_)
        exact w_X6_voteAndRain_b107 l X x4 h H locs ls hH (lv_sub hl [4] rfl) hf
    · refine lv_aload_n hx hb dX6_voteAndRain_18 rfl (lv_at hl 0 rfl) ?_
      refine p_getR X hH fg_RX6_28 hf dX6_voteAndRain_19 (fun v5 _ hf => ?_)
      refine lv_iload hx hb dX6_voteAndRain_22 (lv_at hl 5 rfl) ?_
      refine p_cVR (As := [.int x5]) (b := v5) (rest := []) (ci := 0) X hH rfl hf (fun _ _ e_ => c_Jx4a65c_get_915e3 l G v5 x5 h _ _ e_) mv_Jx4a65c_get_915e3 lk_RX6_119 (by decide) rfl hl.1 (Nat.le_of_ble_eq_true rfl) dX6_voteAndRain_24 (c2 := 0) (s2 := 0) (by decide) (fun v6 h H locs hH hf => ?_)
      refine p_cast X hH (ci := 1) rfl m_346 hf dX6_voteAndRain_27 (fun _ hf => ?_)
      refine lv_astore (lv' := [(6, .ref v6), (0, .ref x0), (1, .ref x1), (2, .int x2), (3, .int x3), (4, .int x4), (5, .int x5)]) hx hb dX6_voteAndRain_30 hl (by decide) rfl (fun ls hl => ?_)
      refine lv_aload hx hb dX6_voteAndRain_32 (lv_at hl 0 rfl) ?_
      refine p_getI X hH fg_RX6_264 hf dX6_voteAndRain_34 (fun v7 _ hf => ?_)
      refine lv_iload_n hx hb dX6_voteAndRain_37 rfl (lv_at hl 3 rfl) ?_
      refine p_icmp_eq X hf dX6_voteAndRain_38 (tgt := 44) (by decide) (fun _ hf => ?_) (fun _ hf => ?_)
      · refine lv_aload_n hx hb dX6_voteAndRain_44 rfl (lv_at hl 2 rfl) ?_
        refine lv_aload hx hb dX6_voteAndRain_45 (lv_at hl 0 rfl) ?_
        refine p_getR X hH fg_RX6_257 hf dX6_voteAndRain_47 (fun v8 _ hf => ?_)
        refine p_cVI (As := [.ref v8]) (b := x1) (rest := []) (ci := 4) X hH rfl hf (fun _ _ e_ => c_X3_carries l G x1 v8 h _ _ e_) mv_X3_carries lk_RX6_272 (by decide) rfl hl.1 (Nat.le_of_ble_eq_true rfl) dX6_voteAndRain_50 (c2 := 0) (s2 := 0) (by decide) (fun v9 h H locs hH hf => ?_)
        refine lv_istore (lv' := [(7, .int v9), (6, .ref v6), (0, .ref x0), (1, .ref x1), (2, .int x2), (3, .int x3), (4, .int x4), (5, .int x5)]) hx hb dX6_voteAndRain_53 hl (by decide) rfl (fun ls hl => ?_)
        refine lv_iload hx hb dX6_voteAndRain_55 (lv_at hl 0 rfl) ?_
        refine p_if_eq X hf dX6_voteAndRain_57 (tgt := 72) (by decide) (fun _ hf => ?_) (fun _ hf => ?_)
        · exact w_X6_voteAndRain_b72 l X k6 ik6 x0 x1 x2 x3 x4 x5 v6 v9 h H locs ls hH (lv_sub hl [2, 3, 4, 5, 6, 7, 1, 0] rfl) hf
        · refine lv_aload_n hx hb dX6_voteAndRain_60 rfl (lv_at hl 3 rfl) ?_
          refine lv_aload hx hb dX6_voteAndRain_61 (lv_at hl 1 rfl) ?_
          refine p_getR X hH fg_RX6_257 hf dX6_voteAndRain_63 (fun v10 _ hf => ?_)
          refine p_cVV (As := [.ref v10]) (b := x1) (rest := []) (ci := 4) X hH rfl hf (fun _ _ e_ => c_X3_giveEffect l G x1 v10 h _ _ e_) mv_X3_giveEffect lk_RX6_276 (by decide) rfl hl.1 (Nat.le_of_ble_eq_true rfl) dX6_voteAndRain_66 (c2 := 0) (s2 := 0) (by decide) (fun _ h H locs hH hf => ?_)
          refine lv_iinc (v := (x4 + (1 : Int32))) (lv' := [(4, .int (x4 + (1 : Int32))), (7, .int v9), (6, .ref v6), (0, .ref x0), (1, .ref x1), (2, .int x2), (3, .int x3), (5, .int x5)]) hx hb dX6_voteAndRain_69 hl (k := 6) rfl rfl (by decide) rfl (fun ls hl => ?_)
          exact w_X6_voteAndRain_b72 l X k6 ik6 x0 x1 x2 x3 (x4 + (1 : Int32)) x5 v6 v9 h H locs ls hH (lv_sub hl [3, 4, 5, 6, 0, 7, 2, 1] rfl) hf
      · refine lv_goto (tgt := 86) hx hb dX6_voteAndRain_41 (by decide) ?_
        exact w_X6_voteAndRain_b86 l X k6 ik6 x0 x1 x2 x3 x4 x5 h H locs ls hH (lv_sub hl [1, 2, 3, 4, 5, 6] rfl) hf
set_option maxRecDepth 100000 in
set_option maxHeartbeats 4000000 in
theorem c_X6_voteAndRain (l : Launch) (G : GE) (x0 : Nat) (x1 : Nat) (x2 : Int32) (x3 : Int32) (h : PH) (rr : Int32) (hh : PH) (hf : f_X6_voteAndRain G x0 x1 x2 x3 h = some (rr, hh)) : Ct l yX6_voteAndRain cX6_voteAndRain 8 (some .int) rm_X6_voteAndRain G [.ref x0, .ref x1, .int x2, .int x3] h (some (.int rr)) hh := by
  refine Ct.of (plainFor_of_name (by decide)) (Nat.le_of_ble_eq_true rfl) ?_
  intro p e s m args below meth c ls X hH hl
  have hl : lv_has ls 8 [(0, .ref x0), (1, .ref x1), (2, .int x2), (3, .int x3)] := hl
  have X : Cx G p s m args meth c cX6_voteAndRain 8 RX6 "voteAndRain" (some .int) := X
  have hx := X.1
  have hb := X.2.1
  unfold f_X6_voteAndRain at hf
  obtain ⟨H, hHe⟩ : ∃ z, z = s.heap := ⟨_, rfl⟩
  obtain ⟨locs, hLe⟩ : ∃ z, z = ([] : List Loc) := ⟨_, rfl⟩
  rw [← hHe, ← hLe] at hH
  rw [← hHe, ← hLe]
  refine lv_iconst (v := 0) hx hb dX6_voteAndRain_0 (by decide) ?_
  refine lv_istore (lv' := [(4, .int (0 : Int32)), (0, .ref x0), (1, .ref x1), (2, .int x2), (3, .int x3)]) hx hb dX6_voteAndRain_1 hl (by decide) rfl (fun ls hl => ?_)
  refine lv_iconst (v := 0) hx hb dX6_voteAndRain_3 (by decide) ?_
  refine lv_istore (lv' := [(5, .int (0 : Int32)), (4, .int (0 : Int32)), (0, .ref x0), (1, .ref x1), (2, .int x2), (3, .int x3)]) hx hb dX6_voteAndRain_4 hl (by decide) rfl (fun ls hl => ?_)
  exact w_X6_voteAndRain_b6 l X LF x0 x1 x2 x3 (0 : Int32) (0 : Int32) h H locs ls hH (lv_sub hl [2, 3, 4, 5, 1, 0] rfl) hf
set_option maxRecDepth 100000 in
set_option maxHeartbeats 4000000 in
theorem w_Jx4a65c_fastRemove_b59b0_b34 {G : GE} {p : Program} (l : Launch) {e : Env} {s : State} {m : MethodId} {args : Array Value} {below : List Frame} {meth : Method} {c : Code} {rr : Unit} {hh : PH} (X : Cx G p s m args meth c cJx4a65c_fastRemove_b59b0 4 RJx4a65c "fastRemove" none) (x0 : Nat) (x1 : Nat) (x3 : Int32) (h : PH) (H : Heap) (locs : List Loc) (ls : Array Slot) (hH : Hx G s h H locs) (hl : lv_has ls 4 [(0, .ref x0), (1, .ref x1), (3, .int x3)]) (hf : f_Jx4a65c_fastRemove_b59b0_b34 G x0 x1 x3 h = some (rr, hh)) : W p l e rm_Jx4a65c_fastRemove_b59b0 s m args below meth c H locs 0 0 (Fq G none hh below args s rm_Jx4a65c_fastRemove_b59b0.cells rm_Jx4a65c_fastRemove_b59b0.slots) (F0 m 34 ls []) := by
  have hx := X.1
  have hb := X.2.1
  unfold f_Jx4a65c_fastRemove_b59b0_b34 at hf
  refine lv_aload_n hx hb dJx4a65c_fastRemove_b59b0_34 rfl (lv_at hl 1 rfl) ?_
  refine lv_aload_n hx hb dJx4a65c_fastRemove_b59b0_35 rfl (lv_at hl 0 rfl) ?_
  refine lv_iload_n hx hb dJx4a65c_fastRemove_b59b0_36 rfl (lv_at hl 2 rfl) ?_
  refine lv_dup_x1 hx hb dJx4a65c_fastRemove_b59b0_37 rfl rfl ?_
  refine p_put X hH fp_RJx4a65c_48 rfl rfl hf dJx4a65c_fastRemove_b59b0_38 (fun h H locs hH hf => ?_)
  refine lv_null hx hb dJx4a65c_fastRemove_b59b0_41 ?_
  refine p_aastN X hH hf dJx4a65c_fastRemove_b59b0_42 (fun h H locs hH hf => ?_)
  exact p_vret X hH hf (by decide) (by decide) dJx4a65c_fastRemove_b59b0_43
set_option maxRecDepth 100000 in
set_option maxHeartbeats 4000000 in
theorem c_Jx4a65c_fastRemove_b59b0 (l : Launch) (G : GE) (x0 : Nat) (x1 : Nat) (x2 : Int32) (h : PH) (rr : Unit) (hh : PH) (hf : f_Jx4a65c_fastRemove_b59b0 G x0 x1 x2 h = some (rr, hh)) : Ct l yJx4a65c_fastRemove_b59b0 cJx4a65c_fastRemove_b59b0 4 none rm_Jx4a65c_fastRemove_b59b0 G [.ref x0, .ref x1, .int x2] h none hh := by
  refine Ct.of (plainFor_of_name (by decide)) (Nat.le_of_ble_eq_true rfl) ?_
  intro p e s m args below meth c ls X hH hl
  have hl : lv_has ls 4 [(0, .ref x0), (1, .ref x1), (2, .int x2)] := hl
  have X : Cx G p s m args meth c cJx4a65c_fastRemove_b59b0 4 RJx4a65c "fastRemove" none := X
  have hx := X.1
  have hb := X.2.1
  unfold f_Jx4a65c_fastRemove_b59b0 at hf
  obtain ⟨H, hHe⟩ : ∃ z, z = s.heap := ⟨_, rfl⟩
  obtain ⟨locs, hLe⟩ : ∃ z, z = ([] : List Loc) := ⟨_, rfl⟩
  rw [← hHe, ← hLe] at hH
  rw [← hHe, ← hLe]
  refine lv_aload_n hx hb dJx4a65c_fastRemove_b59b0_0 rfl (lv_at hl 0 rfl) ?_
  refine lv_dup hx hb dJx4a65c_fastRemove_b59b0_1 rfl ?_
  refine p_getI X hH fg_RJx4a65c_63 hf dJx4a65c_fastRemove_b59b0_2 (fun v1 _ hf => ?_)
  refine lv_iconst (v := 1) hx hb dJx4a65c_fastRemove_b59b0_5 (by decide) ?_
  refine lv_iadd hx hb dJx4a65c_fastRemove_b59b0_6 ?_
  refine p_put X hH fp_RJx4a65c_63 rfl rfl hf dJx4a65c_fastRemove_b59b0_7 (fun h H locs hH hf => ?_)
  refine lv_aload_n hx hb dJx4a65c_fastRemove_b59b0_10 rfl (lv_at hl 0 rfl) ?_
  refine p_getI X hH fg_RJx4a65c_48 hf dJx4a65c_fastRemove_b59b0_11 (fun v2 _ hf => ?_)
  refine lv_iconst (v := 1) hx hb dJx4a65c_fastRemove_b59b0_14 (by decide) ?_
  refine lv_isub hx hb dJx4a65c_fastRemove_b59b0_15 ?_
  refine lv_dup hx hb dJx4a65c_fastRemove_b59b0_16 rfl ?_
  refine lv_istore_n (lv' := [(3, .int (v2 - (1 : Int32))), (0, .ref x0), (1, .ref x1), (2, .int x2)]) hx hb dJx4a65c_fastRemove_b59b0_17 rfl hl (by decide) rfl (fun ls hl => ?_)
  refine lv_iload_n hx hb dJx4a65c_fastRemove_b59b0_18 rfl (lv_at hl 3 rfl) ?_
  refine p_icmp_le X hf dJx4a65c_fastRemove_b59b0_19 (tgt := 34) (by decide) (fun _ hf => ?_) (fun _ hf => ?_)
  · exact w_Jx4a65c_fastRemove_b59b0_b34 l X x0 x1 (v2 - (1 : Int32)) h H locs ls hH (lv_sub hl [1, 2, 0] rfl) hf
  · refine lv_aload_n hx hb dJx4a65c_fastRemove_b59b0_22 rfl (lv_at hl 2 rfl) ?_
    refine lv_iload_n hx hb dJx4a65c_fastRemove_b59b0_23 rfl (lv_at hl 3 rfl) ?_
    refine lv_iconst (v := 1) hx hb dJx4a65c_fastRemove_b59b0_24 (by decide) ?_
    refine lv_iadd hx hb dJx4a65c_fastRemove_b59b0_25 ?_
    refine lv_aload_n hx hb dJx4a65c_fastRemove_b59b0_26 rfl (lv_at hl 2 rfl) ?_
    refine lv_iload_n hx hb dJx4a65c_fastRemove_b59b0_27 rfl (lv_at hl 3 rfl) ?_
    refine lv_iload_n hx hb dJx4a65c_fastRemove_b59b0_28 rfl (lv_at hl 0 rfl) ?_
    refine lv_iload_n hx hb dJx4a65c_fastRemove_b59b0_29 rfl (lv_at hl 3 rfl) ?_
    refine lv_isub hx hb dJx4a65c_fastRemove_b59b0_30 ?_
    refine p_copy1 X hH m_768 m_185 m_184 m_41 hl.1 (by decide) (Nat.le_of_ble_eq_true rfl) hf dJx4a65c_fastRemove_b59b0_31 (fun h H locs hH hf => ?_)
    exact w_Jx4a65c_fastRemove_b59b0_b34 l X x0 x1 (v2 - (1 : Int32)) h H locs ls hH (lv_sub hl [1, 2, 0] rfl) hf
set_option maxRecDepth 100000 in
set_option maxHeartbeats 4000000 in
theorem c_Jx4a65c_remove_915e3 (l : Launch) (G : GE) (x0 : Nat) (x1 : Int32) (h : PH) (rr : Nat) (hh : PH) (hf : f_Jx4a65c_remove_915e3 G x0 x1 h = some (rr, hh)) : Ct l yJx4a65c_remove_915e3 cJx4a65c_remove_915e3 4 (some (.object "java/lang/Object")) rm_Jx4a65c_remove_915e3 G [.ref x0, .int x1] h (some (.ref rr)) hh := by
  refine Ct.of (plainFor_of_name (by decide)) (Nat.le_of_ble_eq_true rfl) ?_
  intro p e s m args below meth c ls X hH hl
  have hl : lv_has ls 4 [(0, .ref x0), (1, .int x1)] := hl
  have X : Cx G p s m args meth c cJx4a65c_remove_915e3 4 RJx4a65c "remove" (some (.object "java/lang/Object")) := X
  have hx := X.1
  have hb := X.2.1
  unfold f_Jx4a65c_remove_915e3 at hf
  obtain ⟨H, hHe⟩ : ∃ z, z = s.heap := ⟨_, rfl⟩
  obtain ⟨locs, hLe⟩ : ∃ z, z = ([] : List Loc) := ⟨_, rfl⟩
  rw [← hHe, ← hLe] at hH
  rw [← hHe, ← hLe]
  refine lv_iload_n hx hb dJx4a65c_remove_915e3_0 rfl (lv_at hl 1 rfl) ?_
  refine lv_aload_n hx hb dJx4a65c_remove_915e3_1 rfl (lv_at hl 0 rfl) ?_
  refine p_getI X hH fg_RJx4a65c_48 hf dJx4a65c_remove_915e3_2 (fun v1 _ hf => ?_)
  refine p_cSI (As := [.int x1, .int v1]) (rest := []) X hH hf (fun _ _ e_ => c_J15_checkIndex_7cf53 l G x1 v1 h _ _ e_) ms_J15_checkIndex_7cf53 lk_RJx4a65c_118 (by decide) rfl hl.1 (Nat.le_of_ble_eq_true rfl) dJx4a65c_remove_915e3_5 (c2 := 0) (s2 := 0) (by decide) (fun v2 h H locs hH hf => ?_)
  refine lv_pop hx hb dJx4a65c_remove_915e3_8 rfl ?_
  refine lv_aload_n hx hb dJx4a65c_remove_915e3_9 rfl (lv_at hl 0 rfl) ?_
  refine p_getR X hH fg_RJx4a65c_9 hf dJx4a65c_remove_915e3_10 (fun v3 _ hf => ?_)
  refine lv_astore_n (lv' := [(2, .ref v3), (0, .ref x0), (1, .int x1)]) hx hb dJx4a65c_remove_915e3_13 rfl hl (by decide) rfl (fun ls hl => ?_)
  refine lv_aload_n hx hb dJx4a65c_remove_915e3_14 rfl (lv_at hl 0 rfl) ?_
  refine lv_iload_n hx hb dJx4a65c_remove_915e3_15 rfl (lv_at hl 2 rfl) ?_
  refine p_aald X hH hf dJx4a65c_remove_915e3_16 (fun v4 _ hf => ?_)
  refine lv_astore_n (lv' := [(3, .ref v4), (2, .ref v3), (0, .ref x0), (1, .int x1)]) hx hb dJx4a65c_remove_915e3_17 rfl hl (by decide) rfl (fun ls hl => ?_)
  refine lv_aload_n hx hb dJx4a65c_remove_915e3_18 rfl (lv_at hl 2 rfl) ?_
  refine lv_aload_n hx hb dJx4a65c_remove_915e3_19 rfl (lv_at hl 1 rfl) ?_
  refine lv_iload_n hx hb dJx4a65c_remove_915e3_20 rfl (lv_at hl 3 rfl) ?_
  refine p_cVV (As := [.ref v3, .int x1]) (b := x0) (rest := []) (ci := 0) X hH rfl hf (fun _ _ e_ => c_Jx4a65c_fastRemove_b59b0 l G x0 v3 x1 h _ _ e_) mv_Jx4a65c_fastRemove_b59b0 lk_RJx4a65c_144 (by decide) rfl hl.1 (Nat.le_of_ble_eq_true rfl) dJx4a65c_remove_915e3_21 (c2 := 0) (s2 := 0) (by decide) (fun _ h H locs hH hf => ?_)
  refine lv_aload_n hx hb dJx4a65c_remove_915e3_24 rfl (lv_at hl 0 rfl) ?_
  exact p_aret X (by first | exact Or.inl ⟨_, rfl⟩ | exact Or.inr ⟨_, rfl⟩) hH hf (by decide) (by decide) dJx4a65c_remove_915e3_25
set_option maxRecDepth 100000 in
set_option maxHeartbeats 4000000 in
theorem w_X6_dropPastEntries_b44 {G : GE} {p : Program} (l : Launch) {e : Env} {s : State} {m : MethodId} {args : Array Value} {below : List Frame} {meth : Method} {c : Code} {rr : Unit} {hh : PH} (X : Cx G p s m args meth c cX6_dropPastEntries 2 RX6 "dropPastEntries" none) (k10 : Nat → Int32 → PH → Option (Unit × PH)) (ik10 : ∀ (x0 : Nat) (x1 : Int32) (h : PH) (H : Heap) (locs : List Loc) (ls : Array Slot), Hx G s h H locs → lv_has ls 2 [(0, .ref x0), (1, .int x1)] → k10 x0 x1 h = some (rr, hh) → W p l e rm_X6_dropPastEntries s m args below meth c H locs 0 0 (Fq G none hh below args s rm_X6_dropPastEntries.cells rm_X6_dropPastEntries.slots) (F0 m 10 ls [])) (x0 : Nat) (x1 : Int32) (h : PH) (H : Heap) (locs : List Loc) (ls : Array Slot) (hH : Hx G s h H locs) (hl : lv_has ls 2 [(0, .ref x0), (1, .int x1)]) (hf : f_X6_dropPastEntries_b44 G k10 x0 x1 h = some (rr, hh)) : W p l e rm_X6_dropPastEntries s m args below meth c H locs 0 0 (Fq G none hh below args s rm_X6_dropPastEntries.cells rm_X6_dropPastEntries.slots) (F0 m 44 ls []) := by
  have hx := X.1
  have hb := X.2.1
  unfold f_X6_dropPastEntries_b44 at hf
  refine lv_iinc (v := (x1 + (-1 : Int32))) (lv' := [(1, .int (x1 + (-1 : Int32))), (0, .ref x0)]) hx hb dX6_dropPastEntries_44 hl (k := 1) rfl rfl (by decide) rfl (fun ls hl => ?_)
  refine lv_goto (tgt := 10) hx hb dX6_dropPastEntries_47 (by decide) ?_
  exact ik10 x0 (x1 + (-1 : Int32)) h H locs ls hH (lv_sub hl [1, 0] rfl) hf
set_option maxRecDepth 100000 in
set_option maxHeartbeats 4000000 in
theorem w_X6_dropPastEntries_b10 {G : GE} {p : Program} (l : Launch) {e : Env} {s : State} {m : MethodId} {args : Array Value} {below : List Frame} {meth : Method} {c : Code} {rr : Unit} {hh : PH} (X : Cx G p s m args meth c cX6_dropPastEntries 2 RX6 "dropPastEntries" none) : ∀ (n : Nat) (x0 : Nat) (x1 : Int32) (h : PH) (H : Heap) (locs : List Loc) (ls : Array Slot) (hH : Hx G s h H locs) (hl : lv_has ls 2 [(0, .ref x0), (1, .int x1)]) (hf : f_X6_dropPastEntries_b10 G n x0 x1 h = some (rr, hh)), W p l e rm_X6_dropPastEntries s m args below meth c H locs 0 0 (Fq G none hh below args s rm_X6_dropPastEntries.cells rm_X6_dropPastEntries.slots) (F0 m 10 ls []) := by
  have hx := X.1
  have hb := X.2.1
  intro n
  induction n with
  | zero =>
    intro x0 x1 h H locs ls hH hl hf
    have hf : (none : Option (Unit × PH)) = some (rr, hh) := hf
    cases hf
  | succ n ih =>
    intro x0 x1 h H locs ls hH hl hf
    have hf : f_X6_dropPastEntries_b10_body G (f_X6_dropPastEntries_b10 G n) x0 x1 h = some (rr, hh) := hf
    generalize f_X6_dropPastEntries_b10 G n = k10 at hf ih
    have ik10 := ih
    unfold f_X6_dropPastEntries_b10_body at hf
    refine lv_iload_n hx hb dX6_dropPastEntries_10 rfl (lv_at hl 1 rfl) ?_
    refine p_if_lt X hf dX6_dropPastEntries_11 (tgt := 50) (by decide) (fun _ hf => ?_) (fun _ hf => ?_)
    · exact p_vret X hH hf (by decide) (by decide) dX6_dropPastEntries_50
    · refine lv_aload_n hx hb dX6_dropPastEntries_14 rfl (lv_at hl 0 rfl) ?_
      refine p_getR X hH fg_RX6_28 hf dX6_dropPastEntries_15 (fun v3 _ hf => ?_)
      refine lv_iload_n hx hb dX6_dropPastEntries_18 rfl (lv_at hl 1 rfl) ?_
      refine p_cVR (As := [.int x1]) (b := v3) (rest := []) (ci := 0) X hH rfl hf (fun _ _ e_ => c_Jx4a65c_get_915e3 l G v3 x1 h _ _ e_) mv_Jx4a65c_get_915e3 lk_RX6_119 (by decide) rfl hl.1 (Nat.le_of_ble_eq_true rfl) dX6_dropPastEntries_19 (c2 := 0) (s2 := 0) (by decide) (fun v4 h H locs hH hf => ?_)
      refine p_cast X hH (ci := 1) rfl m_346 hf dX6_dropPastEntries_22 (fun _ hf => ?_)
      refine p_getI X hH fg_RX6_264 hf dX6_dropPastEntries_25 (fun v5 _ hf => ?_)
      refine lv_aload_n hx hb dX6_dropPastEntries_28 rfl (lv_at hl 0 rfl) ?_
      refine p_getI X hH fg_RX6_145 hf dX6_dropPastEntries_29 (fun v6 _ hf => ?_)
      refine p_icmp_ge X hf dX6_dropPastEntries_32 (tgt := 44) (by decide) (fun _ hf => ?_) (fun _ hf => ?_)
      · exact w_X6_dropPastEntries_b44 l X k10 ik10 x0 x1 h H locs ls hH (lv_sub hl [0, 1] rfl) hf
      · refine lv_aload_n hx hb dX6_dropPastEntries_35 rfl (lv_at hl 0 rfl) ?_
        refine p_getR X hH fg_RX6_28 hf dX6_dropPastEntries_36 (fun v7 _ hf => ?_)
        refine lv_iload_n hx hb dX6_dropPastEntries_39 rfl (lv_at hl 1 rfl) ?_
        refine p_cVR (As := [.int x1]) (b := v7) (rest := []) (ci := 0) X hH rfl hf (fun _ _ e_ => c_Jx4a65c_remove_915e3 l G v7 x1 h _ _ e_) mv_Jx4a65c_remove_915e3 lk_RX6_291 (by decide) rfl hl.1 (Nat.le_of_ble_eq_true rfl) dX6_dropPastEntries_40 (c2 := 0) (s2 := 0) (by decide) (fun v8 h H locs hH hf => ?_)
        refine lv_pop hx hb dX6_dropPastEntries_43 rfl ?_
        exact w_X6_dropPastEntries_b44 l X k10 ik10 x0 x1 h H locs ls hH (lv_sub hl [0, 1] rfl) hf
set_option maxRecDepth 100000 in
set_option maxHeartbeats 4000000 in
theorem c_X6_dropPastEntries (l : Launch) (G : GE) (x0 : Nat) (h : PH) (rr : Unit) (hh : PH) (hf : f_X6_dropPastEntries G x0 h = some (rr, hh)) : Ct l yX6_dropPastEntries cX6_dropPastEntries 2 none rm_X6_dropPastEntries G [.ref x0] h none hh := by
  refine Ct.of (plainFor_of_name (by decide)) (Nat.le_of_ble_eq_true rfl) ?_
  intro p e s m args below meth c ls X hH hl
  have hl : lv_has ls 2 [(0, .ref x0)] := hl
  have X : Cx G p s m args meth c cX6_dropPastEntries 2 RX6 "dropPastEntries" none := X
  have hx := X.1
  have hb := X.2.1
  unfold f_X6_dropPastEntries at hf
  obtain ⟨H, hHe⟩ : ∃ z, z = s.heap := ⟨_, rfl⟩
  obtain ⟨locs, hLe⟩ : ∃ z, z = ([] : List Loc) := ⟨_, rfl⟩
  rw [← hHe, ← hLe] at hH
  rw [← hHe, ← hLe]
  refine lv_aload_n hx hb dX6_dropPastEntries_0 rfl (lv_at hl 0 rfl) ?_
  refine p_getR X hH fg_RX6_28 hf dX6_dropPastEntries_1 (fun v1 _ hf => ?_)
  refine p_cVI (As := []) (b := v1) (rest := []) (ci := 0) X hH rfl hf (fun _ _ e_ => c_Jx4a65c_size_8abf5 l G v1 h _ _ e_) mv_Jx4a65c_size_8abf5 lk_RX6_60 (by decide) rfl hl.1 (Nat.le_of_ble_eq_true rfl) dX6_dropPastEntries_4 (c2 := 0) (s2 := 0) (by decide) (fun v2 h H locs hH hf => ?_)
  refine lv_iconst (v := 1) hx hb dX6_dropPastEntries_7 (by decide) ?_
  refine lv_isub hx hb dX6_dropPastEntries_8 ?_
  refine lv_istore_n (lv' := [(1, .int (v2 - (1 : Int32))), (0, .ref x0)]) hx hb dX6_dropPastEntries_9 rfl hl (by decide) rfl (fun ls hl => ?_)
  exact w_X6_dropPastEntries_b10 l X LF x0 (v2 - (1 : Int32)) h H locs ls hH (lv_sub hl [1, 0] rfl) hf
set_option maxRecDepth 100000 in
set_option maxHeartbeats 4000000 in
theorem w_X6_pass_b46 {G : GE} {p : Program} (l : Launch) {e : Env} {s : State} {m : MethodId} {args : Array Value} {below : List Frame} {meth : Method} {c : Code} {rr : (Sum Int32 String)} {hh : PH} (X : Cx G p s m args meth c cX6_pass 4 RX6 "pass" (some .int)) (hfl : l.stackTraces = false) (hex : ∀ x ∈ c.exceptionTable.toList, False) : ∀ (n : Nat) (x0 : Nat) (x1 : Int32) (x2 : Int32) (x3 : Int32) (h : PH) (H : Heap) (locs : List Loc) (ls : Array Slot) (hH : Hx G s h H locs) (hl : lv_has ls 4 [(0, .ref x0), (1, .int x1), (2, .int x2), (3, .int x3)]) (hf : f_X6_pass_b46 G n x0 x1 x2 x3 h = some (rr, hh)), W p l e rm_X6_pass s m args below meth c H locs 0 0 (Xq G rr hh below args s rm_X6_pass.cells rm_X6_pass.slots) (F0 m 46 ls []) := by
  have hx := X.1
  have hb := X.2.1
  intro n
  induction n with
  | zero =>
    intro x0 x1 x2 x3 h H locs ls hH hl hf
    have hf : (none : Option ((Sum Int32 String) × PH)) = some (rr, hh) := hf
    cases hf
  | succ n ih =>
    intro x0 x1 x2 x3 h H locs ls hH hl hf
    have hf : f_X6_pass_b46_body G (f_X6_pass_b46 G n) x0 x1 x2 x3 h = some (rr, hh) := hf
    generalize f_X6_pass_b46 G n = k46 at hf ih
    have ik46 := ih
    unfold f_X6_pass_b46_body at hf
    refine lv_iload_n hx hb dX6_pass_46 rfl (lv_at hl 3 rfl) ?_
    refine lv_iload_n hx hb dX6_pass_47 rfl (lv_at hl 1 rfl) ?_
    refine p_icmp_ge X hf dX6_pass_48 (tgt := 98) (by decide) (fun _ hf => ?_) (fun _ hf => ?_)
    · refine lv_aload_n hx hb dX6_pass_98 rfl (lv_at hl 0 rfl) ?_
      refine lv_dup hx hb dX6_pass_99 rfl ?_
      refine p_getI X hH fg_RX6_199 hf dX6_pass_100 (fun v3 _ hf => ?_)
      refine lv_iload_n hx hb dX6_pass_103 rfl (lv_at hl 2 rfl) ?_
      refine lv_iadd hx hb dX6_pass_104 ?_
      refine p_put X hH fp_RX6_199 rfl rfl hf dX6_pass_105 (fun h H locs hH hf => ?_)
      refine lv_aload_n hx hb dX6_pass_108 rfl (lv_at hl 0 rfl) ?_
      refine p_cVV (As := []) (b := x0) (rest := []) (ci := 7) X hH rfl hf (fun _ _ e_ => c_X6_dropPastEntries l G x0 h _ _ e_) mv_X6_dropPastEntries lk_RX6_202 (by decide) rfl hl.1 (Nat.le_of_ble_eq_true rfl) dX6_pass_109 (c2 := 0) (s2 := 0) (by decide) (fun _ h H locs hH hf => ?_)
      refine lv_iload_n hx hb dX6_pass_112 rfl (lv_at hl 2 rfl) ?_
      exact p_xret X hH hf (by decide) (by decide) dX6_pass_113
    · refine lv_aload_n hx hb dX6_pass_51 rfl (lv_at hl 0 rfl) ?_
      refine p_getR X hH fg_RX6_34 hf dX6_pass_52 (fun v4 _ hf => ?_)
      refine lv_aload_n hx hb dX6_pass_55 rfl (lv_at hl 0 rfl) ?_
      refine lv_aload_n hx hb dX6_pass_56 rfl (lv_at hl 0 rfl) ?_
      refine p_getI X hH fg_RX6_145 hf dX6_pass_57 (fun v5 _ hf => ?_)
      refine p_cVR (As := [.int v5]) (b := x0) (rest := [.ref v4]) (ci := 7) X hH rfl hf (fun _ _ e_ => c_X6_windAt l G x0 v5 h _ _ e_) mv_X6_windAt lk_RX6_79 (by decide) rfl hl.1 (Nat.le_of_ble_eq_true rfl) dX6_pass_60 (c2 := 0) (s2 := 0) (by decide) (fun v6 h H locs hH hf => ?_)
      refine p_cVV (As := [.ref v6]) (b := v4) (rest := []) (ci := 4) X hH rfl hf (fun _ _ e_ => c_X3_blowOnAll l G v4 v6 h _ _ e_) mv_X3_blowOnAll lk_RX6_191 (by decide) rfl hl.1 (Nat.le_of_ble_eq_true rfl) dX6_pass_63 (c2 := 0) (s2 := 0) (by decide) (fun _ h H locs hH hf => ?_)
      refine lv_iload_n hx hb dX6_pass_66 rfl (lv_at hl 2 rfl) ?_
      refine lv_aload_n hx hb dX6_pass_67 rfl (lv_at hl 0 rfl) ?_
      refine lv_aload_n hx hb dX6_pass_68 rfl (lv_at hl 0 rfl) ?_
      refine p_getR X hH fg_RX6_34 hf dX6_pass_69 (fun v7 _ hf => ?_)
      refine lv_aload_n hx hb dX6_pass_72 rfl (lv_at hl 0 rfl) ?_
      refine p_getI X hH fg_RX6_145 hf dX6_pass_73 (fun v8 _ hf => ?_)
      refine lv_iconst (v := 1) hx hb dX6_pass_76 (by decide) ?_
      refine p_cVI (As := [.ref v7, .int v8, .int (1 : Int32)]) (b := x0) (rest := [.int x2]) (ci := 7) X hH rfl hf (fun _ _ e_ => c_X6_voteAndRain l G x0 v7 v8 (1 : Int32) h _ _ e_) mv_X6_voteAndRain lk_RX6_195 (by decide) rfl hl.1 (Nat.le_of_ble_eq_true rfl) dX6_pass_77 (c2 := 0) (s2 := 0) (by decide) (fun v9 h H locs hH hf => ?_)
      refine lv_iadd hx hb dX6_pass_80 ?_
      refine lv_istore_n (lv' := [(2, .int (x2 + v9)), (0, .ref x0), (1, .int x1), (3, .int x3)]) hx hb dX6_pass_81 rfl hl (by decide) rfl (fun ls hl => ?_)
      refine lv_aload_n hx hb dX6_pass_82 rfl (lv_at hl 1 rfl) ?_
      refine lv_dup hx hb dX6_pass_83 rfl ?_
      refine p_getI X hH fg_RX6_145 hf dX6_pass_84 (fun v10 _ hf => ?_)
      refine lv_iconst (v := 1) hx hb dX6_pass_87 (by decide) ?_
      refine lv_iadd hx hb dX6_pass_88 ?_
      refine p_put X hH fp_RX6_145 rfl rfl hf dX6_pass_89 (fun h H locs hH hf => ?_)
      refine lv_iinc (v := (x3 + (1 : Int32))) (lv' := [(3, .int (x3 + (1 : Int32))), (2, .int (x2 + v9)), (0, .ref x0), (1, .int x1)]) hx hb dX6_pass_92 hl (k := 3) rfl rfl (by decide) rfl (fun ls hl => ?_)
      refine lv_goto (tgt := 46) hx hb dX6_pass_95 (by decide) ?_
      exact ik46 x0 x1 (x2 + v9) (x3 + (1 : Int32)) h H locs ls hH (lv_sub hl [2, 3, 1, 0] rfl) hf
set_option maxRecDepth 100000 in
set_option maxHeartbeats 4000000 in
theorem c_X6_pass (l : Launch) (hfl : l.stackTraces = false) (G : GE) (x0 : Nat) (x1 : Int32) (h : PH) (rr : (Sum Int32 String)) (hh : PH) (hf : f_X6_pass G x0 x1 h = some (rr, hh)) : Xt l yX6_pass cX6_pass 4 rm_X6_pass G [.ref x0, .int x1] h rr hh := by
  refine Xt.of (by decide) (Nat.le_of_ble_eq_true rfl) ?_
  intro p e s m args below meth c ls X hex hH hl
  have hl : lv_has ls 4 [(0, .ref x0), (1, .int x1)] := hl
  have X : Cx G p s m args meth c cX6_pass 4 RX6 "pass" (some .int) := X
  have hx := X.1
  have hb := X.2.1
  unfold f_X6_pass at hf
  obtain ⟨H, hHe⟩ : ∃ z, z = s.heap := ⟨_, rfl⟩
  obtain ⟨locs, hLe⟩ : ∃ z, z = ([] : List Loc) := ⟨_, rfl⟩
  rw [← hHe, ← hLe] at hH
  rw [← hHe, ← hLe]
  refine lv_iload_n hx hb dX6_pass_0 rfl (lv_at hl 1 rfl) ?_
  refine lv_iconst (v := 1) hx hb dX6_pass_1 (by decide) ?_
  refine lv_bipush (v := 100) hx hb dX6_pass_2 (by decide) ?_
  refine p_cSI (As := [.int x1, .int (1 : Int32), .int (100 : Int32)]) (rest := []) X hH hf (fun _ _ e_ => c_X6_isWithin l G x1 (1 : Int32) (100 : Int32) h _ _ e_) ms_X6_isWithin lk_RX6_49 (by decide) rfl hl.1 (Nat.le_of_ble_eq_true rfl) dX6_pass_4 (c2 := 0) (s2 := 0) (by decide) (fun v1 h H locs hH hf => ?_)
  refine p_if_ne X hf dX6_pass_7 (tgt := 20) (by decide) (fun _ hf => ?_) (fun _ hf => ?_)
  · refine lv_aload_n hx hb dX6_pass_20 rfl (lv_at hl 0 rfl) ?_
    refine p_getI X hH fg_RX6_145 hf dX6_pass_21 (fun v2 _ hf => ?_)
    refine lv_iload_n hx hb dX6_pass_24 rfl (lv_at hl 1 rfl) ?_
    refine lv_iadd hx hb dX6_pass_25 ?_
    refine lv_sipush (v := 2000) hx hb dX6_pass_26 (by decide) ?_
    refine p_icmp_le X hf dX6_pass_29 (tgt := 42) (by decide) (fun _ hf => ?_) (fun _ hf => ?_)
    · refine lv_iconst (v := 0) hx hb dX6_pass_42 (by decide) ?_
      refine lv_istore_n (lv' := [(2, .int (0 : Int32)), (0, .ref x0), (1, .int x1)]) hx hb dX6_pass_43 rfl hl (by decide) rfl (fun ls hl => ?_)
      refine lv_iconst (v := 0) hx hb dX6_pass_44 (by decide) ?_
      refine lv_istore_n (lv' := [(3, .int (0 : Int32)), (2, .int (0 : Int32)), (0, .ref x0), (1, .int x1)]) hx hb dX6_pass_45 rfl hl (by decide) rfl (fun ls hl => ?_)
      exact w_X6_pass_b46 l X hfl hex LF x0 x1 (0 : Int32) (0 : Int32) h H locs ls hH (lv_sub hl [2, 3, 1, 0] rfl) hf
    · exact p_thr_ise X hH (strs_189) hf hfl hex hl.1 (by decide) (by decide) (by decide) (by decide) (by decide) (by decide) dX6_pass_32 dX6_pass_35 dX6_pass_36 dX6_pass_38 dX6_pass_41
  · exact p_thr_iae X hH (strs_187) hf hfl hex hl.1 (by decide) (by decide) (by decide) (by decide) (by decide) (by decide) dX6_pass_10 dX6_pass_13 dX6_pass_14 dX6_pass_16 dX6_pass_19
