/-! ===== walks (printed by program) ===== -/
set_option maxRecDepth 100000 in
set_option maxHeartbeats 4000000 in
theorem c_X6_tally (l : Launch) (G : GE) (x0 : Nat) (x1 : Int32) (h : PH) (rr : Int32) (hh : PH) (hf : f_X6_tally G x0 x1 h = some (rr, hh)) : Ct l yX6_tally cX6_tally 2 (some .int) rm_X6_tally G [.ref x0, .int x1] h (some (.int rr)) hh := by
  refine Ct.of (plainFor_of_name (by decide)) (Nat.le_of_ble_eq_true rfl) ?_
  intro p e s m args below meth c ls X hH hl
  have hl : lv_has ls 2 [(0, .ref x0), (1, .int x1)] := hl
  have X : Cx G p s m args meth c cX6_tally 2 RX6 "tally" (some .int) := X
  have hx := X.1
  have hb := X.2.1
  unfold f_X6_tally at hf
  obtain ⟨H, hHe⟩ : ∃ z, z = s.heap := ⟨_, rfl⟩
  obtain ⟨locs, hLe⟩ : ∃ z, z = ([] : List Loc) := ⟨_, rfl⟩
  rw [← hHe, ← hLe] at hH
  rw [← hHe, ← hLe]
  refine lv_iload_n hx hb dX6_tally_0 rfl (lv_at hl 1 rfl) ?_
  by_cases g1 : x1 = (0 : Int32)
  · rw [if_pos g1] at hf
    refine p_tin X dX6_tally_1 g1 (by decide) (by decide) rfl (tgt := 48) (by decide) ?_
    refine lv_aload_n hx hb dX6_tally_48 rfl (lv_at hl 0 rfl) ?_
    refine p_getI X hH fg_RX6_145 hf dX6_tally_49 (fun v2 _ hf => ?_)
    exact p_iret X hH hf (by decide) (by decide) dX6_tally_52
  rw [if_neg g1] at hf
  by_cases g3 : x1 = (1 : Int32)
  · rw [if_pos g3] at hf
    refine p_tin X dX6_tally_1 g3 (by decide) (by decide) rfl (tgt := 53) (by decide) ?_
    refine lv_aload_n hx hb dX6_tally_53 rfl (lv_at hl 0 rfl) ?_
    refine p_getR X hH fg_RX6_34 hf dX6_tally_54 (fun v4 _ hf => ?_)
    refine p_getR X hH fg_RX6_95 hf dX6_tally_57 (fun v5 _ hf => ?_)
    refine p_cVI (As := []) (b := v5) (rest := []) (ci := 0) X hH rfl hf (fun _ _ e_ => c_Jx4a65c_size_8abf5 l G v5 h _ _ e_) mv_Jx4a65c_size_8abf5 lk_RX6_60 (by decide) rfl hl.1 (Nat.le_of_ble_eq_true rfl) dX6_tally_60 (c2 := 0) (s2 := 0) (by decide) (fun v6 h H locs hH hf => ?_)
    exact p_iret X hH hf (by decide) (by decide) dX6_tally_63
  rw [if_neg g3] at hf
  by_cases g7 : x1 = (2 : Int32)
  · rw [if_pos g7] at hf
    refine p_tin X dX6_tally_1 g7 (by decide) (by decide) rfl (tgt := 64) (by decide) ?_
    refine lv_aload_n hx hb dX6_tally_64 rfl (lv_at hl 0 rfl) ?_
    refine p_getR X hH fg_RX6_25 hf dX6_tally_65 (fun v8 _ hf => ?_)
    refine p_cVI (As := []) (b := v8) (rest := []) (ci := 0) X hH rfl hf (fun _ _ e_ => c_Jx4a65c_size_8abf5 l G v8 h _ _ e_) mv_Jx4a65c_size_8abf5 lk_RX6_60 (by decide) rfl hl.1 (Nat.le_of_ble_eq_true rfl) dX6_tally_68 (c2 := 0) (s2 := 0) (by decide) (fun v9 h H locs hH hf => ?_)
    exact p_iret X hH hf (by decide) (by decide) dX6_tally_71
  rw [if_neg g7] at hf
  by_cases g10 : x1 = (3 : Int32)
  · rw [if_pos g10] at hf
    refine p_tin X dX6_tally_1 g10 (by decide) (by decide) rfl (tgt := 72) (by decide) ?_
    refine lv_aload_n hx hb dX6_tally_72 rfl (lv_at hl 0 rfl) ?_
    refine p_getR X hH fg_RX6_21 hf dX6_tally_73 (fun v11 _ hf => ?_)
    refine p_cVI (As := []) (b := v11) (rest := []) (ci := 0) X hH rfl hf (fun _ _ e_ => c_Jx4a65c_size_8abf5 l G v11 h _ _ e_) mv_Jx4a65c_size_8abf5 lk_RX6_60 (by decide) rfl hl.1 (Nat.le_of_ble_eq_true rfl) dX6_tally_76 (c2 := 0) (s2 := 0) (by decide) (fun v12 h H locs hH hf => ?_)
    exact p_iret X hH hf (by decide) (by decide) dX6_tally_79
  rw [if_neg g10] at hf
  by_cases g13 : x1 = (4 : Int32)
  · rw [if_pos g13] at hf
    refine p_tin X dX6_tally_1 g13 (by decide) (by decide) rfl (tgt := 80) (by decide) ?_
    refine lv_aload_n hx hb dX6_tally_80 rfl (lv_at hl 0 rfl) ?_
    refine p_getR X hH fg_RX6_28 hf dX6_tally_81 (fun v14 _ hf => ?_)
    refine p_cVI (As := []) (b := v14) (rest := []) (ci := 0) X hH rfl hf (fun _ _ e_ => c_Jx4a65c_size_8abf5 l G v14 h _ _ e_) mv_Jx4a65c_size_8abf5 lk_RX6_60 (by decide) rfl hl.1 (Nat.le_of_ble_eq_true rfl) dX6_tally_84 (c2 := 0) (s2 := 0) (by decide) (fun v15 h H locs hH hf => ?_)
    exact p_iret X hH hf (by decide) (by decide) dX6_tally_87
  rw [if_neg g13] at hf
  by_cases g16 : x1 = (5 : Int32)
  · rw [if_pos g16] at hf
    refine p_tin X dX6_tally_1 g16 (by decide) (by decide) rfl (tgt := 88) (by decide) ?_
    refine lv_aload_n hx hb dX6_tally_88 rfl (lv_at hl 0 rfl) ?_
    refine p_getR X hH fg_RX6_34 hf dX6_tally_89 (fun v17 _ hf => ?_)
    refine p_cVI (As := []) (b := v17) (rest := []) (ci := 4) X hH rfl hf (fun _ _ e_ => c_X3_allVotes l G v17 h _ _ e_) mv_X3_allVotes lk_RX6_220 (by decide) rfl hl.1 (Nat.le_of_ble_eq_true rfl) dX6_tally_92 (c2 := 0) (s2 := 0) (by decide) (fun v18 h H locs hH hf => ?_)
    exact p_iret X hH hf (by decide) (by decide) dX6_tally_95
  rw [if_neg g16] at hf
  by_cases g19 : x1 = (6 : Int32)
  · rw [if_pos g19] at hf
    refine p_tin X dX6_tally_1 g19 (by decide) (by decide) rfl (tgt := 96) (by decide) ?_
    refine lv_aload_n hx hb dX6_tally_96 rfl (lv_at hl 0 rfl) ?_
    refine p_getI X hH fg_RX6_199 hf dX6_tally_97 (fun v20 _ hf => ?_)
    exact p_iret X hH hf (by decide) (by decide) dX6_tally_100
  rw [if_neg g19] at hf
  by_cases g21 : x1 = (7 : Int32)
  · rw [if_pos g21] at hf
    refine p_tin X dX6_tally_1 g21 (by decide) (by decide) rfl (tgt := 101) (by decide) ?_
    refine lv_aload_n hx hb dX6_tally_101 rfl (lv_at hl 0 rfl) ?_
    refine p_getR X hH fg_RX6_34 hf dX6_tally_102 (fun v22 _ hf => ?_)
    refine p_cVI (As := []) (b := v22) (rest := []) (ci := 4) X hH rfl hf (fun _ _ e_ => c_X3_boundVanes l G v22 h _ _ e_) mv_X3_boundVanes lk_RX6_265 (by decide) rfl hl.1 (Nat.le_of_ble_eq_true rfl) dX6_tally_105 (c2 := 0) (s2 := 0) (by decide) (fun v23 h H locs hH hf => ?_)
    exact p_iret X hH hf (by decide) (by decide) dX6_tally_108
  rw [if_neg g21] at hf
  refine p_tout (N := 7) X dX6_tally_1 (by decide) (fun j hj => by match j, hj with | 0, _ => exact g1 | 1, _ => exact g3 | 2, _ => exact g7 | 3, _ => exact g10 | 4, _ => exact g13 | 5, _ => exact g16 | 6, _ => exact g19 | 7, _ => exact g21 | j + 8, hj => omega) (tgt := 109) (by decide) ?_
  refine lv_aload_n hx hb dX6_tally_109 rfl (lv_at hl 0 rfl) ?_
  refine p_getR X hH fg_RX6_34 hf dX6_tally_110 (fun v24 _ hf => ?_)
  refine lv_aload_n hx hb dX6_tally_113 rfl (lv_at hl 0 rfl) ?_
  refine lv_aload_n hx hb dX6_tally_114 rfl (lv_at hl 0 rfl) ?_
  refine p_getI X hH fg_RX6_145 hf dX6_tally_115 (fun v25 _ hf => ?_)
  refine p_cVR (As := [.int v25]) (b := x0) (rest := [.ref v24]) (ci := 7) X hH rfl hf (fun _ _ e_ => c_X6_windAt l G x0 v25 h _ _ e_) mv_X6_windAt lk_RX6_79 (by decide) rfl hl.1 (Nat.le_of_ble_eq_true rfl) dX6_tally_118 (c2 := 0) (s2 := 0) (by decide) (fun v26 h H locs hH hf => ?_)
  refine p_cVI (As := [.ref v26]) (b := v24) (rest := []) (ci := 4) X hH rfl hf (fun _ _ e_ => c_X3_stuckVanes l G v24 v26 h _ _ e_) mv_X3_stuckVanes lk_RX6_268 (by decide) rfl hl.1 (Nat.le_of_ble_eq_true rfl) dX6_tally_121 (c2 := 0) (s2 := 0) (by decide) (fun v27 h H locs hH hf => ?_)
  exact p_iret X hH hf (by decide) (by decide) dX6_tally_124
set_option maxRecDepth 100000 in
set_option maxHeartbeats 4000000 in
theorem c_X6_count (l : Launch) (hfl : l.stackTraces = false) (G : GE) (x0 : Nat) (x1 : Int32) (h : PH) (rr : (Sum Int32 String)) (hh : PH) (hf : f_X6_count G x0 x1 h = some (rr, hh)) : Xt l yX6_count cX6_count 2 rm_X6_count G [.ref x0, .int x1] h rr hh := by
  refine Xt.of (by decide) (Nat.le_of_ble_eq_true rfl) ?_
  intro p e s m args below meth c ls X hex hH hl
  have hl : lv_has ls 2 [(0, .ref x0), (1, .int x1)] := hl
  have X : Cx G p s m args meth c cX6_count 2 RX6 "count" (some .int) := X
  have hx := X.1
  have hb := X.2.1
  unfold f_X6_count at hf
  obtain ⟨H, hHe⟩ : ∃ z, z = s.heap := ⟨_, rfl⟩
  obtain ⟨locs, hLe⟩ : ∃ z, z = ([] : List Loc) := ⟨_, rfl⟩
  rw [← hHe, ← hLe] at hH
  rw [← hHe, ← hLe]
  refine lv_iload_n hx hb dX6_count_0 rfl (lv_at hl 1 rfl) ?_
  refine lv_iconst (v := 0) hx hb dX6_count_1 (by decide) ?_
  refine lv_bipush (v := 8) hx hb dX6_count_2 (by decide) ?_
  refine p_cSI (As := [.int x1, .int (0 : Int32), .int (8 : Int32)]) (rest := []) X hH hf (fun _ _ e_ => c_X6_isWithin l G x1 (0 : Int32) (8 : Int32) h _ _ e_) ms_X6_isWithin lk_RX6_49 (by decide) rfl hl.1 (Nat.le_of_ble_eq_true rfl) dX6_count_4 (c2 := 0) (s2 := 0) (by decide) (fun v1 h H locs hH hf => ?_)
  refine p_if_ne X hf dX6_count_7 (tgt := 20) (by decide) (fun _ hf => ?_) (fun _ hf => ?_)
  · refine lv_aload_n hx hb dX6_count_20 rfl (lv_at hl 0 rfl) ?_
    refine lv_iload_n hx hb dX6_count_21 rfl (lv_at hl 1 rfl) ?_
    refine p_cVI (As := [.int x1]) (b := x0) (rest := []) (ci := 7) X hH rfl hf (fun _ _ e_ => c_X6_tally l G x0 x1 h _ _ e_) mv_X6_tally lk_RX6_207 (by decide) rfl hl.1 (Nat.le_of_ble_eq_true rfl) dX6_count_22 (c2 := 0) (s2 := 0) (by decide) (fun v2 h H locs hH hf => ?_)
    exact p_xret X hH hf (by decide) (by decide) dX6_count_25
  · exact p_thr_ioo X hH (strs_205) hf hfl hex hl.1 (by decide) (by decide) (by decide) (by decide) (by decide) (by decide) dX6_count_10 dX6_count_13 dX6_count_14 dX6_count_16 dX6_count_19
set_option maxRecDepth 100000 in
set_option maxHeartbeats 4000000 in
theorem w_X6_party_b65 {G : GE} {p : Program} (l : Launch) {e : Env} {s : State} {m : MethodId} {args : Array Value} {below : List Frame} {meth : Method} {c : Code} {rr : (Sum Int32 String)} {hh : PH} (X : Cx G p s m args meth c cX6_party 4 RX6 "party" (some .int)) (hfl : l.stackTraces = false) (hex : ∀ x ∈ c.exceptionTable.toList, False) (t0 : Int32) (h : PH) (H : Heap) (locs : List Loc) (ls : Array Slot) (hH : Hx G s h H locs) (hl : lv_has ls 4 []) (hf : f_X6_party_b65 G t0 h = some (rr, hh)) : W p l e rm_X6_party s m args below meth c H locs 0 0 (Xq G rr hh below args s rm_X6_party.cells rm_X6_party.slots) (F0 m 65 ls [.int t0]) := by
  have hx := X.1
  have hb := X.2.1
  unfold f_X6_party_b65 at hf
  exact p_xret X hH hf (by decide) (by decide) dX6_party_65
set_option maxRecDepth 100000 in
set_option maxHeartbeats 4000000 in
theorem c_X6_party (l : Launch) (hfl : l.stackTraces = false) (G : GE) (x0 : Nat) (x1 : Int32) (x2 : Int32) (h : PH) (rr : (Sum Int32 String)) (hh : PH) (hf : f_X6_party G x0 x1 x2 h = some (rr, hh)) : Xt l yX6_party cX6_party 4 rm_X6_party G [.ref x0, .int x1, .int x2] h rr hh := by
  refine Xt.of (by decide) (Nat.le_of_ble_eq_true rfl) ?_
  intro p e s m args below meth c ls X hex hH hl
  have hl : lv_has ls 4 [(0, .ref x0), (1, .int x1), (2, .int x2)] := hl
  have X : Cx G p s m args meth c cX6_party 4 RX6 "party" (some .int) := X
  have hx := X.1
  have hb := X.2.1
  unfold f_X6_party at hf
  obtain ⟨H, hHe⟩ : ∃ z, z = s.heap := ⟨_, rfl⟩
  obtain ⟨locs, hLe⟩ : ∃ z, z = ([] : List Loc) := ⟨_, rfl⟩
  rw [← hHe, ← hLe] at hH
  rw [← hHe, ← hLe]
  refine lv_iload_n hx hb dX6_party_0 rfl (lv_at hl 1 rfl) ?_
  refine lv_iconst (v := 0) hx hb dX6_party_1 (by decide) ?_
  refine lv_iconst (v := 3) hx hb dX6_party_2 (by decide) ?_
  refine p_cSI (As := [.int x1, .int (0 : Int32), .int (3 : Int32)]) (rest := []) X hH hf (fun _ _ e_ => c_X6_isWithin l G x1 (0 : Int32) (3 : Int32) h _ _ e_) ms_X6_isWithin lk_RX6_49 (by decide) rfl hl.1 (Nat.le_of_ble_eq_true rfl) dX6_party_3 (c2 := 0) (s2 := 0) (by decide) (fun v1 h H locs hH hf => ?_)
  refine p_if_ne X hf dX6_party_6 (tgt := 19) (by decide) (fun _ hf => ?_) (fun _ hf => ?_)
  · refine lv_iload_n hx hb dX6_party_19 rfl (lv_at hl 2 rfl) ?_
    refine lv_iconst (v := 0) hx hb dX6_party_20 (by decide) ?_
    refine lv_iconst (v := 1) hx hb dX6_party_21 (by decide) ?_
    refine p_cSI (As := [.int x2, .int (0 : Int32), .int (1 : Int32)]) (rest := []) X hH hf (fun _ _ e_ => c_X6_isWithin l G x2 (0 : Int32) (1 : Int32) h _ _ e_) ms_X6_isWithin lk_RX6_49 (by decide) rfl hl.1 (Nat.le_of_ble_eq_true rfl) dX6_party_22 (c2 := 0) (s2 := 0) (by decide) (fun v2 h H locs hH hf => ?_)
    refine p_if_ne X hf dX6_party_25 (tgt := 38) (by decide) (fun _ hf => ?_) (fun _ hf => ?_)
    · refine lv_iconst (v := 1) hx hb dX6_party_38 (by decide) ?_
      refine lv_iload_n hx hb dX6_party_39 rfl (lv_at hl 1 rfl) ?_
      refine lv_ishl hx hb dX6_party_40 ?_
      refine lv_istore_n (lv' := [(3, .int ((1 : Int32) <<< (x1 &&& 31))), (0, .ref x0), (1, .int x1), (2, .int x2)]) hx hb dX6_party_41 rfl hl (by decide) rfl (fun ls hl => ?_)
      refine lv_iload_n hx hb dX6_party_42 rfl (lv_at hl 3 rfl) ?_
      refine p_if_ne X hf dX6_party_43 (tgt := 57) (by decide) (fun _ hf => ?_) (fun _ hf => ?_)
      · refine lv_aload_n hx hb dX6_party_57 rfl (lv_at hl 1 rfl) ?_
        refine p_getR X hH fg_RX6_34 hf dX6_party_58 (fun v3 _ hf => ?_)
        refine lv_iload_n hx hb dX6_party_61 rfl (lv_at hl 0 rfl) ?_
        refine p_cVI (As := [.int ((1 : Int32) <<< (x1 &&& 31))]) (b := v3) (rest := []) (ci := 4) X hH rfl hf (fun _ _ e_ => c_X3_votesOf l G v3 ((1 : Int32) <<< (x1 &&& 31)) h _ _ e_) mv_X3_votesOf lk_RX6_217 (by decide) rfl hl.1 (Nat.le_of_ble_eq_true rfl) dX6_party_62 (c2 := 0) (s2 := 0) (by decide) (fun v4 h H locs hH hf => ?_)
        exact w_X6_party_b65 l X hfl hex v4 h H locs ls hH (lv_sub hl [] rfl) hf
      · refine lv_aload_n hx hb dX6_party_46 rfl (lv_at hl 1 rfl) ?_
        refine p_getR X hH fg_RX6_34 hf dX6_party_47 (fun v5 _ hf => ?_)
        refine lv_iload_n hx hb dX6_party_50 rfl (lv_at hl 0 rfl) ?_
        refine p_cVI (As := [.int ((1 : Int32) <<< (x1 &&& 31))]) (b := v5) (rest := []) (ci := 4) X hH rfl hf (fun _ _ e_ => c_X3_vanesOf l G v5 ((1 : Int32) <<< (x1 &&& 31)) h _ _ e_) mv_X3_vanesOf lk_RX6_214 (by decide) rfl hl.1 (Nat.le_of_ble_eq_true rfl) dX6_party_51 (c2 := 0) (s2 := 0) (by decide) (fun v6 h H locs hH hf => ?_)
        refine lv_goto (tgt := 65) hx hb dX6_party_54 (by decide) ?_
        exact w_X6_party_b65 l X hfl hex v6 h H locs ls hH (lv_sub hl [] rfl) hf
    · exact p_thr_ioo X hH (strs_212) hf hfl hex hl.1 (by decide) (by decide) (by decide) (by decide) (by decide) (by decide) dX6_party_28 dX6_party_31 dX6_party_32 dX6_party_34 dX6_party_37
  · exact p_thr_ioo X hH (strs_210) hf hfl hex hl.1 (by decide) (by decide) (by decide) (by decide) (by decide) (by decide) dX6_party_9 dX6_party_12 dX6_party_13 dX6_party_15 dX6_party_18
set_option maxRecDepth 100000 in
set_option maxHeartbeats 4000000 in
theorem c_J6_bitCount_0f7a4 (l : Launch) (G : GE) (x0 : Int32) (h : PH) (rr : Int32) (hh : PH) (hf : f_J6_bitCount_0f7a4 G x0 h = some (rr, hh)) : Ct l yJ6_bitCount_0f7a4 cJ6_bitCount_0f7a4 1 (some .int) rm_J6_bitCount_0f7a4 G [.int x0] h (some (.int rr)) hh := by
  refine Ct.of (plainFor_of_name (by decide)) (Nat.le_of_ble_eq_true rfl) ?_
  intro p e s m args below meth c ls X hH hl
  have hl : lv_has ls 1 [(0, .int x0)] := hl
  have X : Cx G p s m args meth c cJ6_bitCount_0f7a4 1 RJ6 "bitCount" (some .int) := X
  have hx := X.1
  have hb := X.2.1
  unfold f_J6_bitCount_0f7a4 at hf
  obtain ⟨H, hHe⟩ : ∃ z, z = s.heap := ⟨_, rfl⟩
  obtain ⟨locs, hLe⟩ : ∃ z, z = ([] : List Loc) := ⟨_, rfl⟩
  rw [← hHe, ← hLe] at hH
  rw [← hHe, ← hLe]
  refine lv_iload_n hx hb dJ6_bitCount_0f7a4_0 rfl (lv_at hl 0 rfl) ?_
  refine lv_iload_n hx hb dJ6_bitCount_0f7a4_1 rfl (lv_at hl 0 rfl) ?_
  refine lv_iconst (v := 1) hx hb dJ6_bitCount_0f7a4_2 (by decide) ?_
  refine lv_iushr (v := ((x0).toUInt32 >>> (((1 : Int32)).toUInt32 &&& Int32.toUInt32 31)).toInt32) hx hb dJ6_bitCount_0f7a4_3 rfl ?_
  refine lv_ldcw hx hb X.2.2.2.1 (X.2.2.2.2.1 _ m_252) dJ6_bitCount_0f7a4_4 ?_
  refine lv_iand hx hb dJ6_bitCount_0f7a4_7 ?_
  refine lv_isub hx hb dJ6_bitCount_0f7a4_8 ?_
  refine lv_istore_n (lv' := [(0, .int (x0 - ((((x0).toUInt32 >>> (((1 : Int32)).toUInt32 &&& Int32.toUInt32 31)).toInt32) &&& (1431655765 : Int32))))]) hx hb dJ6_bitCount_0f7a4_9 rfl hl (by decide) rfl (fun ls hl => ?_)
  refine lv_iload_n hx hb dJ6_bitCount_0f7a4_10 rfl (lv_at hl 0 rfl) ?_
  refine lv_ldcw hx hb X.2.2.2.1 (X.2.2.2.2.1 _ m_253) dJ6_bitCount_0f7a4_11 ?_
  refine lv_iand hx hb dJ6_bitCount_0f7a4_14 ?_
  refine lv_iload_n hx hb dJ6_bitCount_0f7a4_15 rfl (lv_at hl 0 rfl) ?_
  refine lv_iconst (v := 2) hx hb dJ6_bitCount_0f7a4_16 (by decide) ?_
  refine lv_iushr (v := (((x0 - ((((x0).toUInt32 >>> (((1 : Int32)).toUInt32 &&& Int32.toUInt32 31)).toInt32) &&& (1431655765 : Int32)))).toUInt32 >>> (((2 : Int32)).toUInt32 &&& Int32.toUInt32 31)).toInt32) hx hb dJ6_bitCount_0f7a4_17 rfl ?_
  refine lv_ldcw hx hb X.2.2.2.1 (X.2.2.2.2.1 _ m_253) dJ6_bitCount_0f7a4_18 ?_
  refine lv_iand hx hb dJ6_bitCount_0f7a4_21 ?_
  refine lv_iadd hx hb dJ6_bitCount_0f7a4_22 ?_
  refine lv_istore_n (lv' := [(0, .int (((x0 - ((((x0).toUInt32 >>> (((1 : Int32)).toUInt32 &&& Int32.toUInt32 31)).toInt32) &&& (1431655765 : Int32))) &&& (858993459 : Int32)) + (((((x0 - ((((x0).toUInt32 >>> (((1 : Int32)).toUInt32 &&& Int32.toUInt32 31)).toInt32) &&& (1431655765 : Int32)))).toUInt32 >>> (((2 : Int32)).toUInt32 &&& Int32.toUInt32 31)).toInt32) &&& (858993459 : Int32))))]) hx hb dJ6_bitCount_0f7a4_23 rfl hl (by decide) rfl (fun ls hl => ?_)
  refine lv_iload_n hx hb dJ6_bitCount_0f7a4_24 rfl (lv_at hl 0 rfl) ?_
  refine lv_iload_n hx hb dJ6_bitCount_0f7a4_25 rfl (lv_at hl 0 rfl) ?_
  refine lv_iconst (v := 4) hx hb dJ6_bitCount_0f7a4_26 (by decide) ?_
  refine lv_iushr (v := (((((x0 - ((((x0).toUInt32 >>> (((1 : Int32)).toUInt32 &&& Int32.toUInt32 31)).toInt32) &&& (1431655765 : Int32))) &&& (858993459 : Int32)) + (((((x0 - ((((x0).toUInt32 >>> (((1 : Int32)).toUInt32 &&& Int32.toUInt32 31)).toInt32) &&& (1431655765 : Int32)))).toUInt32 >>> (((2 : Int32)).toUInt32 &&& Int32.toUInt32 31)).toInt32) &&& (858993459 : Int32)))).toUInt32 >>> (((4 : Int32)).toUInt32 &&& Int32.toUInt32 31)).toInt32) hx hb dJ6_bitCount_0f7a4_27 rfl ?_
  refine lv_iadd hx hb dJ6_bitCount_0f7a4_28 ?_
  refine lv_ldcw hx hb X.2.2.2.1 (X.2.2.2.2.1 _ m_254) dJ6_bitCount_0f7a4_29 ?_
  refine lv_iand hx hb dJ6_bitCount_0f7a4_32 ?_
  refine lv_istore_n (lv' := [(0, .int (((((x0 - ((((x0).toUInt32 >>> (((1 : Int32)).toUInt32 &&& Int32.toUInt32 31)).toInt32) &&& (1431655765 : Int32))) &&& (858993459 : Int32)) + (((((x0 - ((((x0).toUInt32 >>> (((1 : Int32)).toUInt32 &&& Int32.toUInt32 31)).toInt32) &&& (1431655765 : Int32)))).toUInt32 >>> (((2 : Int32)).toUInt32 &&& Int32.toUInt32 31)).toInt32) &&& (858993459 : Int32))) + ((((((x0 - ((((x0).toUInt32 >>> (((1 : Int32)).toUInt32 &&& Int32.toUInt32 31)).toInt32) &&& (1431655765 : Int32))) &&& (858993459 : Int32)) + (((((x0 - ((((x0).toUInt32 >>> (((1 : Int32)).toUInt32 &&& Int32.toUInt32 31)).toInt32) &&& (1431655765 : Int32)))).toUInt32 >>> (((2 : Int32)).toUInt32 &&& Int32.toUInt32 31)).toInt32) &&& (858993459 : Int32)))).toUInt32 >>> (((4 : Int32)).toUInt32 &&& Int32.toUInt32 31)).toInt32)) &&& (252645135 : Int32)))]) hx hb dJ6_bitCount_0f7a4_33 rfl hl (by decide) rfl (fun ls hl => ?_)
  refine lv_iload_n hx hb dJ6_bitCount_0f7a4_34 rfl (lv_at hl 0 rfl) ?_
  refine lv_iload_n hx hb dJ6_bitCount_0f7a4_35 rfl (lv_at hl 0 rfl) ?_
  refine lv_bipush (v := 8) hx hb dJ6_bitCount_0f7a4_36 (by decide) ?_
  refine lv_iushr (v := (((((((x0 - ((((x0).toUInt32 >>> (((1 : Int32)).toUInt32 &&& Int32.toUInt32 31)).toInt32) &&& (1431655765 : Int32))) &&& (858993459 : Int32)) + (((((x0 - ((((x0).toUInt32 >>> (((1 : Int32)).toUInt32 &&& Int32.toUInt32 31)).toInt32) &&& (1431655765 : Int32)))).toUInt32 >>> (((2 : Int32)).toUInt32 &&& Int32.toUInt32 31)).toInt32) &&& (858993459 : Int32))) + ((((((x0 - ((((x0).toUInt32 >>> (((1 : Int32)).toUInt32 &&& Int32.toUInt32 31)).toInt32) &&& (1431655765 : Int32))) &&& (858993459 : Int32)) + (((((x0 - ((((x0).toUInt32 >>> (((1 : Int32)).toUInt32 &&& Int32.toUInt32 31)).toInt32) &&& (1431655765 : Int32)))).toUInt32 >>> (((2 : Int32)).toUInt32 &&& Int32.toUInt32 31)).toInt32) &&& (858993459 : Int32)))).toUInt32 >>> (((4 : Int32)).toUInt32 &&& Int32.toUInt32 31)).toInt32)) &&& (252645135 : Int32))).toUInt32 >>> (((8 : Int32)).toUInt32 &&& Int32.toUInt32 31)).toInt32) hx hb dJ6_bitCount_0f7a4_38 rfl ?_
  refine lv_iadd hx hb dJ6_bitCount_0f7a4_39 ?_
  refine lv_istore_n (lv' := [(0, .int ((((((x0 - ((((x0).toUInt32 >>> (((1 : Int32)).toUInt32 &&& Int32.toUInt32 31)).toInt32) &&& (1431655765 : Int32))) &&& (858993459 : Int32)) + (((((x0 - ((((x0).toUInt32 >>> (((1 : Int32)).toUInt32 &&& Int32.toUInt32 31)).toInt32) &&& (1431655765 : Int32)))).toUInt32 >>> (((2 : Int32)).toUInt32 &&& Int32.toUInt32 31)).toInt32) &&& (858993459 : Int32))) + ((((((x0 - ((((x0).toUInt32 >>> (((1 : Int32)).toUInt32 &&& Int32.toUInt32 31)).toInt32) &&& (1431655765 : Int32))) &&& (858993459 : Int32)) + (((((x0 - ((((x0).toUInt32 >>> (((1 : Int32)).toUInt32 &&& Int32.toUInt32 31)).toInt32) &&& (1431655765 : Int32)))).toUInt32 >>> (((2 : Int32)).toUInt32 &&& Int32.toUInt32 31)).toInt32) &&& (858993459 : Int32)))).toUInt32 >>> (((4 : Int32)).toUInt32 &&& Int32.toUInt32 31)).toInt32)) &&& (252645135 : Int32)) + ((((((((x0 - ((((x0).toUInt32 >>> (((1 : Int32)).toUInt32 &&& Int32.toUInt32 31)).toInt32) &&& (1431655765 : Int32))) &&& (858993459 : Int32)) + (((((x0 - ((((x0).toUInt32 >>> (((1 : Int32)).toUInt32 &&& Int32.toUInt32 31)).toInt32) &&& (1431655765 : Int32)))).toUInt32 >>> (((2 : Int32)).toUInt32 &&& Int32.toUInt32 31)).toInt32) &&& (858993459 : Int32))) + ((((((x0 - ((((x0).toUInt32 >>> (((1 : Int32)).toUInt32 &&& Int32.toUInt32 31)).toInt32) &&& (1431655765 : Int32))) &&& (858993459 : Int32)) + (((((x0 - ((((x0).toUInt32 >>> (((1 : Int32)).toUInt32 &&& Int32.toUInt32 31)).toInt32) &&& (1431655765 : Int32)))).toUInt32 >>> (((2 : Int32)).toUInt32 &&& Int32.toUInt32 31)).toInt32) &&& (858993459 : Int32)))).toUInt32 >>> (((4 : Int32)).toUInt32 &&& Int32.toUInt32 31)).toInt32)) &&& (252645135 : Int32))).toUInt32 >>> (((8 : Int32)).toUInt32 &&& Int32.toUInt32 31)).toInt32)))]) hx hb dJ6_bitCount_0f7a4_40 rfl hl (by decide) rfl (fun ls hl => ?_)
  refine lv_iload_n hx hb dJ6_bitCount_0f7a4_41 rfl (lv_at hl 0 rfl) ?_
  refine lv_iload_n hx hb dJ6_bitCount_0f7a4_42 rfl (lv_at hl 0 rfl) ?_
  refine lv_bipush (v := 16) hx hb dJ6_bitCount_0f7a4_43 (by decide) ?_
  refine lv_iushr (v := ((((((((x0 - ((((x0).toUInt32 >>> (((1 : Int32)).toUInt32 &&& Int32.toUInt32 31)).toInt32) &&& (1431655765 : Int32))) &&& (858993459 : Int32)) + (((((x0 - ((((x0).toUInt32 >>> (((1 : Int32)).toUInt32 &&& Int32.toUInt32 31)).toInt32) &&& (1431655765 : Int32)))).toUInt32 >>> (((2 : Int32)).toUInt32 &&& Int32.toUInt32 31)).toInt32) &&& (858993459 : Int32))) + ((((((x0 - ((((x0).toUInt32 >>> (((1 : Int32)).toUInt32 &&& Int32.toUInt32 31)).toInt32) &&& (1431655765 : Int32))) &&& (858993459 : Int32)) + (((((x0 - ((((x0).toUInt32 >>> (((1 : Int32)).toUInt32 &&& Int32.toUInt32 31)).toInt32) &&& (1431655765 : Int32)))).toUInt32 >>> (((2 : Int32)).toUInt32 &&& Int32.toUInt32 31)).toInt32) &&& (858993459 : Int32)))).toUInt32 >>> (((4 : Int32)).toUInt32 &&& Int32.toUInt32 31)).toInt32)) &&& (252645135 : Int32)) + ((((((((x0 - ((((x0).toUInt32 >>> (((1 : Int32)).toUInt32 &&& Int32.toUInt32 31)).toInt32) &&& (1431655765 : Int32))) &&& (858993459 : Int32)) + (((((x0 - ((((x0).toUInt32 >>> (((1 : Int32)).toUInt32 &&& Int32.toUInt32 31)).toInt32) &&& (1431655765 : Int32)))).toUInt32 >>> (((2 : Int32)).toUInt32 &&& Int32.toUInt32 31)).toInt32) &&& (858993459 : Int32))) + ((((((x0 - ((((x0).toUInt32 >>> (((1 : Int32)).toUInt32 &&& Int32.toUInt32 31)).toInt32) &&& (1431655765 : Int32))) &&& (858993459 : Int32)) + (((((x0 - ((((x0).toUInt32 >>> (((1 : Int32)).toUInt32 &&& Int32.toUInt32 31)).toInt32) &&& (1431655765 : Int32)))).toUInt32 >>> (((2 : Int32)).toUInt32 &&& Int32.toUInt32 31)).toInt32) &&& (858993459 : Int32)))).toUInt32 >>> (((4 : Int32)).toUInt32 &&& Int32.toUInt32 31)).toInt32)) &&& (252645135 : Int32))).toUInt32 >>> (((8 : Int32)).toUInt32 &&& Int32.toUInt32 31)).toInt32))).toUInt32 >>> (((16 : Int32)).toUInt32 &&& Int32.toUInt32 31)).toInt32) hx hb dJ6_bitCount_0f7a4_45 rfl ?_
  refine lv_iadd hx hb dJ6_bitCount_0f7a4_46 ?_
  refine lv_istore_n (lv' := [(0, .int (((((((x0 - ((((x0).toUInt32 >>> (((1 : Int32)).toUInt32 &&& Int32.toUInt32 31)).toInt32) &&& (1431655765 : Int32))) &&& (858993459 : Int32)) + (((((x0 - ((((x0).toUInt32 >>> (((1 : Int32)).toUInt32 &&& Int32.toUInt32 31)).toInt32) &&& (1431655765 : Int32)))).toUInt32 >>> (((2 : Int32)).toUInt32 &&& Int32.toUInt32 31)).toInt32) &&& (858993459 : Int32))) + ((((((x0 - ((((x0).toUInt32 >>> (((1 : Int32)).toUInt32 &&& Int32.toUInt32 31)).toInt32) &&& (1431655765 : Int32))) &&& (858993459 : Int32)) + (((((x0 - ((((x0).toUInt32 >>> (((1 : Int32)).toUInt32 &&& Int32.toUInt32 31)).toInt32) &&& (1431655765 : Int32)))).toUInt32 >>> (((2 : Int32)).toUInt32 &&& Int32.toUInt32 31)).toInt32) &&& (858993459 : Int32)))).toUInt32 >>> (((4 : Int32)).toUInt32 &&& Int32.toUInt32 31)).toInt32)) &&& (252645135 : Int32)) + ((((((((x0 - ((((x0).toUInt32 >>> (((1 : Int32)).toUInt32 &&& Int32.toUInt32 31)).toInt32) &&& (1431655765 : Int32))) &&& (858993459 : Int32)) + (((((x0 - ((((x0).toUInt32 >>> (((1 : Int32)).toUInt32 &&& Int32.toUInt32 31)).toInt32) &&& (1431655765 : Int32)))).toUInt32 >>> (((2 : Int32)).toUInt32 &&& Int32.toUInt32 31)).toInt32) &&& (858993459 : Int32))) + ((((((x0 - ((((x0).toUInt32 >>> (((1 : Int32)).toUInt32 &&& Int32.toUInt32 31)).toInt32) &&& (1431655765 : Int32))) &&& (858993459 : Int32)) + (((((x0 - ((((x0).toUInt32 >>> (((1 : Int32)).toUInt32 &&& Int32.toUInt32 31)).toInt32) &&& (1431655765 : Int32)))).toUInt32 >>> (((2 : Int32)).toUInt32 &&& Int32.toUInt32 31)).toInt32) &&& (858993459 : Int32)))).toUInt32 >>> (((4 : Int32)).toUInt32 &&& Int32.toUInt32 31)).toInt32)) &&& (252645135 : Int32))).toUInt32 >>> (((8 : Int32)).toUInt32 &&& Int32.toUInt32 31)).toInt32)) + (((((((((x0 - ((((x0).toUInt32 >>> (((1 : Int32)).toUInt32 &&& Int32.toUInt32 31)).toInt32) &&& (1431655765 : Int32))) &&& (858993459 : Int32)) + (((((x0 - ((((x0).toUInt32 >>> (((1 : Int32)).toUInt32 &&& Int32.toUInt32 31)).toInt32) &&& (1431655765 : Int32)))).toUInt32 >>> (((2 : Int32)).toUInt32 &&& Int32.toUInt32 31)).toInt32) &&& (858993459 : Int32))) + ((((((x0 - ((((x0).toUInt32 >>> (((1 : Int32)).toUInt32 &&& Int32.toUInt32 31)).toInt32) &&& (1431655765 : Int32))) &&& (858993459 : Int32)) + (((((x0 - ((((x0).toUInt32 >>> (((1 : Int32)).toUInt32 &&& Int32.toUInt32 31)).toInt32) &&& (1431655765 : Int32)))).toUInt32 >>> (((2 : Int32)).toUInt32 &&& Int32.toUInt32 31)).toInt32) &&& (858993459 : Int32)))).toUInt32 >>> (((4 : Int32)).toUInt32 &&& Int32.toUInt32 31)).toInt32)) &&& (252645135 : Int32)) + ((((((((x0 - ((((x0).toUInt32 >>> (((1 : Int32)).toUInt32 &&& Int32.toUInt32 31)).toInt32) &&& (1431655765 : Int32))) &&& (858993459 : Int32)) + (((((x0 - ((((x0).toUInt32 >>> (((1 : Int32)).toUInt32 &&& Int32.toUInt32 31)).toInt32) &&& (1431655765 : Int32)))).toUInt32 >>> (((2 : Int32)).toUInt32 &&& Int32.toUInt32 31)).toInt32) &&& (858993459 : Int32))) + ((((((x0 - ((((x0).toUInt32 >>> (((1 : Int32)).toUInt32 &&& Int32.toUInt32 31)).toInt32) &&& (1431655765 : Int32))) &&& (858993459 : Int32)) + (((((x0 - ((((x0).toUInt32 >>> (((1 : Int32)).toUInt32 &&& Int32.toUInt32 31)).toInt32) &&& (1431655765 : Int32)))).toUInt32 >>> (((2 : Int32)).toUInt32 &&& Int32.toUInt32 31)).toInt32) &&& (858993459 : Int32)))).toUInt32 >>> (((4 : Int32)).toUInt32 &&& Int32.toUInt32 31)).toInt32)) &&& (252645135 : Int32))).toUInt32 >>> (((8 : Int32)).toUInt32 &&& Int32.toUInt32 31)).toInt32))).toUInt32 >>> (((16 : Int32)).toUInt32 &&& Int32.toUInt32 31)).toInt32)))]) hx hb dJ6_bitCount_0f7a4_47 rfl hl (by decide) rfl (fun ls hl => ?_)
  refine lv_iload_n hx hb dJ6_bitCount_0f7a4_48 rfl (lv_at hl 0 rfl) ?_
  refine lv_bipush (v := 63) hx hb dJ6_bitCount_0f7a4_49 (by decide) ?_
  refine lv_iand hx hb dJ6_bitCount_0f7a4_51 ?_
  exact p_iret X hH hf (by decide) (by decide) dJ6_bitCount_0f7a4_52
set_option maxRecDepth 100000 in
set_option maxHeartbeats 4000000 in
theorem w_X6_coalition_b82 {G : GE} {p : Program} (l : Launch) {e : Env} {s : State} {m : MethodId} {args : Array Value} {below : List Frame} {meth : Method} {c : Code} {rr : Int32} {hh : PH} (X : Cx G p s m args meth c cX6_coalition 7 RX6 "coalition" (some .int)) (k15 : Nat → Int32 → Int32 → Int32 → Int32 → PH → Option (Int32 × PH)) (ik15 : ∀ (x0 : Nat) (x1 : Int32) (x2 : Int32) (x3 : Int32) (x4 : Int32) (h : PH) (H : Heap) (locs : List Loc) (ls : Array Slot), Hx G s h H locs → lv_has ls 7 [(0, .ref x0), (1, .int x1), (2, .int x2), (3, .int x3), (4, .int x4)] → k15 x0 x1 x2 x3 x4 h = some (rr, hh) → W p l e rm_X6_coalition s m args below meth c H locs 0 0 (Fq G (some (.int rr)) hh below args s rm_X6_coalition.cells rm_X6_coalition.slots) (F0 m 15 ls [])) (x0 : Nat) (x1 : Int32) (x2 : Int32) (x3 : Int32) (x4 : Int32) (h : PH) (H : Heap) (locs : List Loc) (ls : Array Slot) (hH : Hx G s h H locs) (hl : lv_has ls 7 [(0, .ref x0), (1, .int x1), (2, .int x2), (3, .int x3), (4, .int x4)]) (hf : f_X6_coalition_b82 G k15 x0 x1 x2 x3 x4 h = some (rr, hh)) : W p l e rm_X6_coalition s m args below meth c H locs 0 0 (Fq G (some (.int rr)) hh below args s rm_X6_coalition.cells rm_X6_coalition.slots) (F0 m 82 ls []) := by
  have hx := X.1
  have hb := X.2.1
  unfold f_X6_coalition_b82 at hf
  refine lv_iinc (v := (x4 + (1 : Int32))) (lv' := [(4, .int (x4 + (1 : Int32))), (0, .ref x0), (1, .int x1), (2, .int x2), (3, .int x3)]) hx hb dX6_coalition_82 hl (k := 4) rfl rfl (by decide) rfl (fun ls hl => ?_)
  refine lv_goto (tgt := 15) hx hb dX6_coalition_85 (by decide) ?_
  exact ik15 x0 x1 x2 x3 (x4 + (1 : Int32)) h H locs ls hH (lv_sub hl [1, 2, 3, 4, 0] rfl) hf
set_option maxRecDepth 100000 in
set_option maxHeartbeats 4000000 in
theorem w_X6_coalition_b76 {G : GE} {p : Program} (l : Launch) {e : Env} {s : State} {m : MethodId} {args : Array Value} {below : List Frame} {meth : Method} {c : Code} {rr : Int32} {hh : PH} (X : Cx G p s m args meth c cX6_coalition 7 RX6 "coalition" (some .int)) (k15 : Nat → Int32 → Int32 → Int32 → Int32 → PH → Option (Int32 × PH)) (ik15 : ∀ (x0 : Nat) (x1 : Int32) (x2 : Int32) (x3 : Int32) (x4 : Int32) (h : PH) (H : Heap) (locs : List Loc) (ls : Array Slot), Hx G s h H locs → lv_has ls 7 [(0, .ref x0), (1, .int x1), (2, .int x2), (3, .int x3), (4, .int x4)] → k15 x0 x1 x2 x3 x4 h = some (rr, hh) → W p l e rm_X6_coalition s m args below meth c H locs 0 0 (Fq G (some (.int rr)) hh below args s rm_X6_coalition.cells rm_X6_coalition.slots) (F0 m 15 ls [])) (x0 : Nat) (x1 : Int32) (x4 : Int32) (x5 : Int32) (h : PH) (H : Heap) (locs : List Loc) (ls : Array Slot) (hH : Hx G s h H locs) (hl : lv_has ls 7 [(0, .ref x0), (1, .int x1), (4, .int x4), (5, .int x5)]) (hf : f_X6_coalition_b76 G k15 x0 x1 x4 x5 h = some (rr, hh)) : W p l e rm_X6_coalition s m args below meth c H locs 0 0 (Fq G (some (.int rr)) hh below args s rm_X6_coalition.cells rm_X6_coalition.slots) (F0 m 76 ls []) := by
  have hx := X.1
  have hb := X.2.1
  unfold f_X6_coalition_b76 at hf
  refine lv_iload hx hb dX6_coalition_76 (lv_at hl 2 rfl) ?_
  refine lv_istore_n (lv' := [(2, .int x4), (0, .ref x0), (1, .int x1), (4, .int x4), (5, .int x5)]) hx hb dX6_coalition_78 rfl hl (by decide) rfl (fun ls hl => ?_)
  refine lv_iload hx hb dX6_coalition_79 (lv_at hl 4 rfl) ?_
  refine lv_istore_n (lv' := [(3, .int x5), (2, .int x4), (0, .ref x0), (1, .int x1), (4, .int x4), (5, .int x5)]) hx hb dX6_coalition_81 rfl hl (by decide) rfl (fun ls hl => ?_)
  exact w_X6_coalition_b82 l X k15 ik15 x0 x1 x4 x5 x4 h H locs ls hH (lv_sub hl [2, 3, 1, 0, 4] rfl) hf
set_option maxRecDepth 100000 in
set_option maxHeartbeats 4000000 in
theorem w_X6_coalition_b15 {G : GE} {p : Program} (l : Launch) {e : Env} {s : State} {m : MethodId} {args : Array Value} {below : List Frame} {meth : Method} {c : Code} {rr : Int32} {hh : PH} (X : Cx G p s m args meth c cX6_coalition 7 RX6 "coalition" (some .int)) : ∀ (n : Nat) (x0 : Nat) (x1 : Int32) (x2 : Int32) (x3 : Int32) (x4 : Int32) (h : PH) (H : Heap) (locs : List Loc) (ls : Array Slot) (hH : Hx G s h H locs) (hl : lv_has ls 7 [(0, .ref x0), (1, .int x1), (2, .int x2), (3, .int x3), (4, .int x4)]) (hf : f_X6_coalition_b15 G n x0 x1 x2 x3 x4 h = some (rr, hh)), W p l e rm_X6_coalition s m args below meth c H locs 0 0 (Fq G (some (.int rr)) hh below args s rm_X6_coalition.cells rm_X6_coalition.slots) (F0 m 15 ls []) := by
  have hx := X.1
  have hb := X.2.1
  intro n
  induction n with
  | zero =>
    intro x0 x1 x2 x3 x4 h H locs ls hH hl hf
    have hf : (none : Option (Int32 × PH)) = some (rr, hh) := hf
    cases hf
  | succ n ih =>
    intro x0 x1 x2 x3 x4 h H locs ls hH hl hf
    have hf : f_X6_coalition_b15_body G (f_X6_coalition_b15 G n) x0 x1 x2 x3 x4 h = some (rr, hh) := hf
    generalize f_X6_coalition_b15 G n = k15 at hf ih
    have ik15 := ih
    unfold f_X6_coalition_b15_body at hf
    refine lv_iload hx hb dX6_coalition_15 (lv_at hl 4 rfl) ?_
    refine lv_bipush (v := 16) hx hb dX6_coalition_17 (by decide) ?_
    refine p_icmp_ge X hf dX6_coalition_19 (tgt := 88) (by decide) (fun _ hf => ?_) (fun _ hf => ?_)
    · refine lv_iload_n hx hb dX6_coalition_88 rfl (lv_at hl 2 rfl) ?_
      exact p_iret X hH hf (by decide) (by decide) dX6_coalition_89
    · refine lv_aload_n hx hb dX6_coalition_22 rfl (lv_at hl 0 rfl) ?_
      refine p_getR X hH fg_RX6_34 hf dX6_coalition_23 (fun v3 _ hf => ?_)
      refine lv_iload hx hb dX6_coalition_26 (lv_at hl 4 rfl) ?_
      refine p_cVI (As := [.int x4]) (b := v3) (rest := []) (ci := 4) X hH rfl hf (fun _ _ e_ => c_X3_votesOf l G v3 x4 h _ _ e_) mv_X3_votesOf lk_RX6_217 (by decide) rfl hl.1 (Nat.le_of_ble_eq_true rfl) dX6_coalition_28 (c2 := 0) (s2 := 0) (by decide) (fun v4 h H locs hH hf => ?_)
      refine lv_istore (lv' := [(5, .int v4), (0, .ref x0), (1, .int x1), (2, .int x2), (3, .int x3), (4, .int x4)]) hx hb dX6_coalition_31 hl (by decide) rfl (fun ls hl => ?_)
      refine lv_iload hx hb dX6_coalition_33 (lv_at hl 0 rfl) ?_
      refine lv_iconst (v := 2) hx hb dX6_coalition_35 (by decide) ?_
      refine lv_imul hx hb dX6_coalition_36 ?_
      refine lv_iload_n hx hb dX6_coalition_37 rfl (lv_at hl 2 rfl) ?_
      refine p_icmp_gt X hf dX6_coalition_38 (tgt := 44) (by decide) (fun _ hf => ?_) (fun _ hf => ?_)
      · refine lv_iload hx hb dX6_coalition_44 (lv_at hl 5 rfl) ?_
        refine p_cSI (As := [.int x4]) (rest := []) X hH hf (fun _ _ e_ => c_J6_bitCount_0f7a4 l G x4 h _ _ e_) ms_J6_bitCount_0f7a4 lk_RX6_223 (by decide) rfl hl.1 (Nat.le_of_ble_eq_true rfl) dX6_coalition_46 (c2 := 0) (s2 := 0) (by decide) (fun v5 h H locs hH hf => ?_)
        refine lv_iload_n hx hb dX6_coalition_49 rfl (lv_at hl 3 rfl) ?_
        refine p_cSI (As := [.int x2]) (rest := [.int v5]) X hH hf (fun _ _ e_ => c_J6_bitCount_0f7a4 l G x2 h _ _ e_) ms_J6_bitCount_0f7a4 lk_RX6_223 (by decide) rfl hl.1 (Nat.le_of_ble_eq_true rfl) dX6_coalition_50 (c2 := 0) (s2 := 0) (by decide) (fun v6 h H locs hH hf => ?_)
        refine lv_isub hx hb dX6_coalition_53 ?_
        refine lv_istore (lv' := [(6, .int (v5 - v6)), (5, .int v4), (0, .ref x0), (1, .int x1), (2, .int x2), (3, .int x3), (4, .int x4)]) hx hb dX6_coalition_54 hl (by decide) rfl (fun ls hl => ?_)
        refine lv_iload_n hx hb dX6_coalition_56 rfl (lv_at hl 4 rfl) ?_
        refine p_if_eq X hf dX6_coalition_57 (tgt := 76) (by decide) (fun _ hf => ?_) (fun _ hf => ?_)
        · exact w_X6_coalition_b76 l X k15 ik15 x0 x1 x4 v4 h H locs ls hH (lv_sub hl [2, 3, 6, 1] rfl) hf
        · refine lv_iload hx hb dX6_coalition_60 (lv_at hl 0 rfl) ?_
          refine p_if_lt X hf dX6_coalition_62 (tgt := 76) (by decide) (fun _ hf => ?_) (fun _ hf => ?_)
          · exact w_X6_coalition_b76 l X k15 ik15 x0 x1 x4 v4 h H locs ls hH (lv_sub hl [2, 3, 6, 1] rfl) hf
          · refine lv_iload hx hb dX6_coalition_65 (lv_at hl 0 rfl) ?_
            refine p_if_ne X hf dX6_coalition_67 (tgt := 82) (by decide) (fun _ hf => ?_) (fun _ hf => ?_)
            · exact w_X6_coalition_b82 l X k15 ik15 x0 x1 x2 x3 x4 h H locs ls hH (lv_sub hl [2, 3, 4, 5, 6] rfl) hf
            · refine lv_iload hx hb dX6_coalition_70 (lv_at hl 1 rfl) ?_
              refine lv_iload_n hx hb dX6_coalition_72 rfl (lv_at hl 5 rfl) ?_
              refine p_icmp_le X hf dX6_coalition_73 (tgt := 82) (by decide) (fun _ hf => ?_) (fun _ hf => ?_)
              · exact w_X6_coalition_b82 l X k15 ik15 x0 x1 x2 x3 x4 h H locs ls hH (lv_sub hl [2, 3, 4, 5, 6] rfl) hf
              · exact w_X6_coalition_b76 l X k15 ik15 x0 x1 x4 v4 h H locs ls hH (lv_sub hl [2, 3, 6, 1] rfl) hf
      · refine lv_goto (tgt := 82) hx hb dX6_coalition_41 (by decide) ?_
        exact w_X6_coalition_b82 l X k15 ik15 x0 x1 x2 x3 x4 h H locs ls hH (lv_sub hl [1, 2, 3, 4, 5] rfl) hf
set_option maxRecDepth 100000 in
set_option maxHeartbeats 4000000 in
theorem c_X6_coalition (l : Launch) (G : GE) (x0 : Nat) (h : PH) (rr : Int32) (hh : PH) (hf : f_X6_coalition G x0 h = some (rr, hh)) : Ct l yX6_coalition cX6_coalition 7 (some .int) rm_X6_coalition G [.ref x0] h (some (.int rr)) hh := by
  refine Ct.of (plainFor_of_name (by decide)) (Nat.le_of_ble_eq_true rfl) ?_
  intro p e s m args below meth c ls X hH hl
  have hl : lv_has ls 7 [(0, .ref x0)] := hl
  have X : Cx G p s m args meth c cX6_coalition 7 RX6 "coalition" (some .int) := X
  have hx := X.1
  have hb := X.2.1
  unfold f_X6_coalition at hf
  obtain ⟨H, hHe⟩ : ∃ z, z = s.heap := ⟨_, rfl⟩
  obtain ⟨locs, hLe⟩ : ∃ z, z = ([] : List Loc) := ⟨_, rfl⟩
  rw [← hHe, ← hLe] at hH
  rw [← hHe, ← hLe]
  refine lv_aload_n hx hb dX6_coalition_0 rfl (lv_at hl 0 rfl) ?_
  refine p_getR X hH fg_RX6_34 hf dX6_coalition_1 (fun v1 _ hf => ?_)
  refine p_cVI (As := []) (b := v1) (rest := []) (ci := 4) X hH rfl hf (fun _ _ e_ => c_X3_allVotes l G v1 h _ _ e_) mv_X3_allVotes lk_RX6_220 (by decide) rfl hl.1 (Nat.le_of_ble_eq_true rfl) dX6_coalition_4 (c2 := 0) (s2 := 0) (by decide) (fun v2 h H locs hH hf => ?_)
  refine lv_istore_n (lv' := [(1, .int v2), (0, .ref x0)]) hx hb dX6_coalition_7 rfl hl (by decide) rfl (fun ls hl => ?_)
  refine lv_iconst (v := 0) hx hb dX6_coalition_8 (by decide) ?_
  refine lv_istore_n (lv' := [(2, .int (0 : Int32)), (1, .int v2), (0, .ref x0)]) hx hb dX6_coalition_9 rfl hl (by decide) rfl (fun ls hl => ?_)
  refine lv_iconst (v := 0) hx hb dX6_coalition_10 (by decide) ?_
  refine lv_istore_n (lv' := [(3, .int (0 : Int32)), (2, .int (0 : Int32)), (1, .int v2), (0, .ref x0)]) hx hb dX6_coalition_11 rfl hl (by decide) rfl (fun ls hl => ?_)
  refine lv_iconst (v := 1) hx hb dX6_coalition_12 (by decide) ?_
  refine lv_istore (lv' := [(4, .int (1 : Int32)), (3, .int (0 : Int32)), (2, .int (0 : Int32)), (1, .int v2), (0, .ref x0)]) hx hb dX6_coalition_13 hl (by decide) rfl (fun ls hl => ?_)
  exact w_X6_coalition_b15 l X LF x0 v2 (0 : Int32) (0 : Int32) (1 : Int32) h H locs ls hH (lv_sub hl [4, 3, 2, 1, 0] rfl) hf
set_option maxRecDepth 100000 in
set_option maxHeartbeats 4000000 in
theorem w_X6_foresee_b73 {G : GE} {p : Program} (l : Launch) {e : Env} {s : State} {m : MethodId} {args : Array Value} {below : List Frame} {meth : Method} {c : Code} {rr : (Sum Int32 String)} {hh : PH} (X : Cx G p s m args meth c cX6_foresee 4 RX6 "foresee" (some .int)) (hfl : l.stackTraces = false) (hex : ∀ x ∈ c.exceptionTable.toList, False) : ∀ (n : Nat) (x0 : Nat) (x1 : Int32) (x2 : Int32) (x3 : Int32) (h : PH) (H : Heap) (locs : List Loc) (ls : Array Slot) (hH : Hx G s h H locs) (hl : lv_has ls 4 [(0, .ref x0), (1, .int x1), (2, .int x2), (3, .int x3)]) (hf : f_X6_foresee_b73 G n x0 x1 x2 x3 h = some (rr, hh)), W p l e rm_X6_foresee s m args below meth c H locs 0 0 (Xq G rr hh below args s rm_X6_foresee.cells rm_X6_foresee.slots) (F0 m 73 ls []) := by
  have hx := X.1
  have hb := X.2.1
  intro n
  induction n with
  | zero =>
    intro x0 x1 x2 x3 h H locs ls hH hl hf
    have hf : (none : Option ((Sum Int32 String) × PH)) = some (rr, hh) := hf
    cases hf
  | succ n ih =>
    intro x0 x1 x2 x3 h H locs ls hH hl hf
    have hf : f_X6_foresee_b73_body G (f_X6_foresee_b73 G n) x0 x1 x2 x3 h = some (rr, hh) := hf
    generalize f_X6_foresee_b73 G n = k73 at hf ih
    have ik73 := ih
    unfold f_X6_foresee_b73_body at hf
    refine lv_iload_n hx hb dX6_foresee_73 rfl (lv_at hl 3 rfl) ?_
    refine lv_iload_n hx hb dX6_foresee_74 rfl (lv_at hl 2 rfl) ?_
    refine p_icmp_ge X hf dX6_foresee_75 (tgt := 117) (by decide) (fun _ hf => ?_) (fun _ hf => ?_)
    · refine lv_aload_n hx hb dX6_foresee_117 rfl (lv_at hl 0 rfl) ?_
      refine p_getR X hH fg_RX6_38 hf dX6_foresee_118 (fun v6 _ hf => ?_)
      refine lv_iload_n hx hb dX6_foresee_121 rfl (lv_at hl 1 rfl) ?_
      refine p_cVI (As := [.int x1]) (b := v6) (rest := []) (ci := 4) X hH rfl hf (fun _ _ e_ => c_X3_directionOf l G v6 x1 h _ _ e_) mv_X3_directionOf lk_RX6_232 (by decide) rfl hl.1 (Nat.le_of_ble_eq_true rfl) dX6_foresee_122 (c2 := 0) (s2 := 0) (by decide) (fun v7 h H locs hH hf => ?_)
      exact p_xret X hH hf (by decide) (by decide) dX6_foresee_125
    · refine lv_aload_n hx hb dX6_foresee_78 rfl (lv_at hl 0 rfl) ?_
      refine p_getR X hH fg_RX6_38 hf dX6_foresee_79 (fun v8 _ hf => ?_)
      refine lv_aload_n hx hb dX6_foresee_82 rfl (lv_at hl 0 rfl) ?_
      refine lv_aload_n hx hb dX6_foresee_83 rfl (lv_at hl 0 rfl) ?_
      refine p_getI X hH fg_RX6_145 hf dX6_foresee_84 (fun v9 _ hf => ?_)
      refine lv_iload_n hx hb dX6_foresee_87 rfl (lv_at hl 3 rfl) ?_
      refine lv_iadd hx hb dX6_foresee_88 ?_
      refine p_cVR (As := [.int (v9 + x3)]) (b := x0) (rest := [.ref v8]) (ci := 7) X hH rfl hf (fun _ _ e_ => c_X6_windAt l G x0 (v9 + x3) h _ _ e_) mv_X6_windAt lk_RX6_79 (by decide) rfl hl.1 (Nat.le_of_ble_eq_true rfl) dX6_foresee_89 (c2 := 0) (s2 := 0) (by decide) (fun v10 h H locs hH hf => ?_)
      refine p_cVV (As := [.ref v10]) (b := v8) (rest := []) (ci := 4) X hH rfl hf (fun _ _ e_ => c_X3_blowOnAll l G v8 v10 h _ _ e_) mv_X3_blowOnAll lk_RX6_191 (by decide) rfl hl.1 (Nat.le_of_ble_eq_true rfl) dX6_foresee_92 (c2 := 0) (s2 := 0) (by decide) (fun _ h H locs hH hf => ?_)
      refine lv_aload_n hx hb dX6_foresee_95 rfl (lv_at hl 0 rfl) ?_
      refine lv_aload_n hx hb dX6_foresee_96 rfl (lv_at hl 0 rfl) ?_
      refine p_getR X hH fg_RX6_38 hf dX6_foresee_97 (fun v11 _ hf => ?_)
      refine lv_aload_n hx hb dX6_foresee_100 rfl (lv_at hl 0 rfl) ?_
      refine p_getI X hH fg_RX6_145 hf dX6_foresee_101 (fun v12 _ hf => ?_)
      refine lv_iload_n hx hb dX6_foresee_104 rfl (lv_at hl 3 rfl) ?_
      refine lv_iadd hx hb dX6_foresee_105 ?_
      refine lv_iconst (v := 0) hx hb dX6_foresee_106 (by decide) ?_
      refine p_cVI (As := [.ref v11, .int (v12 + x3), .int (0 : Int32)]) (b := x0) (rest := []) (ci := 7) X hH rfl hf (fun _ _ e_ => c_X6_voteAndRain l G x0 v11 (v12 + x3) (0 : Int32) h _ _ e_) mv_X6_voteAndRain lk_RX6_195 (by decide) rfl hl.1 (Nat.le_of_ble_eq_true rfl) dX6_foresee_107 (c2 := 0) (s2 := 0) (by decide) (fun v13 h H locs hH hf => ?_)
      refine lv_pop hx hb dX6_foresee_110 rfl ?_
      refine lv_iinc (v := (x3 + (1 : Int32))) (lv' := [(3, .int (x3 + (1 : Int32))), (0, .ref x0), (1, .int x1), (2, .int x2)]) hx hb dX6_foresee_111 hl (k := 3) rfl rfl (by decide) rfl (fun ls hl => ?_)
      refine lv_goto (tgt := 73) hx hb dX6_foresee_114 (by decide) ?_
      exact ik73 x0 x1 x2 (x3 + (1 : Int32)) h H locs ls hH (lv_sub hl [1, 2, 3, 0] rfl) hf
set_option maxRecDepth 100000 in
set_option maxHeartbeats 4000000 in
theorem c_X6_foresee (l : Launch) (hfl : l.stackTraces = false) (G : GE) (x0 : Nat) (x1 : Int32) (x2 : Int32) (h : PH) (rr : (Sum Int32 String)) (hh : PH) (hf : f_X6_foresee G x0 x1 x2 h = some (rr, hh)) : Xt l yX6_foresee cX6_foresee 4 rm_X6_foresee G [.ref x0, .int x1, .int x2] h rr hh := by
  refine Xt.of (by decide) (Nat.le_of_ble_eq_true rfl) ?_
  intro p e s m args below meth c ls X hex hH hl
  have hl : lv_has ls 4 [(0, .ref x0), (1, .int x1), (2, .int x2)] := hl
  have X : Cx G p s m args meth c cX6_foresee 4 RX6 "foresee" (some .int) := X
  have hx := X.1
  have hb := X.2.1
  unfold f_X6_foresee at hf
  obtain ⟨H, hHe⟩ : ∃ z, z = s.heap := ⟨_, rfl⟩
  obtain ⟨locs, hLe⟩ : ∃ z, z = ([] : List Loc) := ⟨_, rfl⟩
  rw [← hHe, ← hLe] at hH
  rw [← hHe, ← hLe]
  refine lv_aload_n hx hb dX6_foresee_0 rfl (lv_at hl 0 rfl) ?_
  refine lv_iload_n hx hb dX6_foresee_1 rfl (lv_at hl 1 rfl) ?_
  refine p_cVI (As := [.int x1]) (b := x0) (rest := []) (ci := 7) X hH rfl hf (fun _ _ e_ => c_X6_isVane l G x0 x1 h _ _ e_) mv_X6_isVane lk_RX6_114 (by decide) rfl hl.1 (Nat.le_of_ble_eq_true rfl) dX6_foresee_2 (c2 := 0) (s2 := 0) (by decide) (fun v1 h H locs hH hf => ?_)
  refine p_if_ne X hf dX6_foresee_5 (tgt := 18) (by decide) (fun _ hf => ?_) (fun _ hf => ?_)
  · refine lv_iload_n hx hb dX6_foresee_18 rfl (lv_at hl 2 rfl) ?_
    refine lv_iconst (v := 0) hx hb dX6_foresee_19 (by decide) ?_
    refine lv_bipush (v := 100) hx hb dX6_foresee_20 (by decide) ?_
    refine p_cSI (As := [.int x2, .int (0 : Int32), .int (100 : Int32)]) (rest := []) X hH hf (fun _ _ e_ => c_X6_isWithin l G x2 (0 : Int32) (100 : Int32) h _ _ e_) ms_X6_isWithin lk_RX6_49 (by decide) rfl hl.1 (Nat.le_of_ble_eq_true rfl) dX6_foresee_22 (c2 := 0) (s2 := 0) (by decide) (fun v2 h H locs hH hf => ?_)
    refine p_if_ne X hf dX6_foresee_25 (tgt := 38) (by decide) (fun _ hf => ?_) (fun _ hf => ?_)
    · refine lv_aload_n hx hb dX6_foresee_38 rfl (lv_at hl 0 rfl) ?_
      refine p_getI X hH fg_RX6_145 hf dX6_foresee_39 (fun v3 _ hf => ?_)
      refine lv_iload_n hx hb dX6_foresee_42 rfl (lv_at hl 2 rfl) ?_
      refine lv_iadd hx hb dX6_foresee_43 ?_
      refine lv_sipush (v := 2000) hx hb dX6_foresee_44 (by decide) ?_
      refine p_icmp_le X hf dX6_foresee_47 (tgt := 60) (by decide) (fun _ hf => ?_) (fun _ hf => ?_)
      · refine lv_aload_n hx hb dX6_foresee_60 rfl (lv_at hl 0 rfl) ?_
        refine p_getR X hH fg_RX6_38 hf dX6_foresee_61 (fun v4 _ hf => ?_)
        refine lv_aload_n hx hb dX6_foresee_64 rfl (lv_at hl 0 rfl) ?_
        refine p_getR X hH fg_RX6_34 hf dX6_foresee_65 (fun v5 _ hf => ?_)
        refine p_cVV (As := [.ref v5]) (b := v4) (rest := []) (ci := 4) X hH rfl hf (fun _ _ e_ => c_X3_copyAllFrom l G v4 v5 h _ _ e_) mv_X3_copyAllFrom lk_RX6_228 (by decide) rfl hl.1 (Nat.le_of_ble_eq_true rfl) dX6_foresee_68 (c2 := 0) (s2 := 0) (by decide) (fun _ h H locs hH hf => ?_)
        refine lv_iconst (v := 0) hx hb dX6_foresee_71 (by decide) ?_
        refine lv_istore_n (lv' := [(3, .int (0 : Int32)), (0, .ref x0), (1, .int x1), (2, .int x2)]) hx hb dX6_foresee_72 rfl hl (by decide) rfl (fun ls hl => ?_)
        exact w_X6_foresee_b73 l X hfl hex LF x0 x1 x2 (0 : Int32) h H locs ls hH (lv_sub hl [1, 2, 3, 0] rfl) hf
      · exact p_thr_ise X hH (strs_189) hf hfl hex hl.1 (by decide) (by decide) (by decide) (by decide) (by decide) (by decide) dX6_foresee_50 dX6_foresee_53 dX6_foresee_54 dX6_foresee_56 dX6_foresee_59
    · exact p_thr_iae X hH (strs_187) hf hfl hex hl.1 (by decide) (by decide) (by decide) (by decide) (by decide) (by decide) dX6_foresee_28 dX6_foresee_31 dX6_foresee_32 dX6_foresee_34 dX6_foresee_37
  · exact p_thr_ioo X hH (strs_117) hf hfl hex hl.1 (by decide) (by decide) (by decide) (by decide) (by decide) (by decide) dX6_foresee_8 dX6_foresee_11 dX6_foresee_12 dX6_foresee_14 dX6_foresee_17
set_option maxRecDepth 100000 in
set_option maxHeartbeats 4000000 in
theorem w_X6_hoursUntilItPasses_b2 {G : GE} {p : Program} (l : Launch) {e : Env} {s : State} {m : MethodId} {args : Array Value} {below : List Frame} {meth : Method} {c : Code} {rr : Int32} {hh : PH} (X : Cx G p s m args meth c cX6_hoursUntilItPasses 4 RX6 "hoursUntilItPasses" (some .int)) : ∀ (n : Nat) (x0 : Nat) (x1 : Nat) (x2 : Int32) (x3 : Int32) (h : PH) (H : Heap) (locs : List Loc) (ls : Array Slot) (hH : Hx G s h H locs) (hl : lv_has ls 4 [(0, .ref x0), (1, .ref x1), (2, .int x2), (3, .int x3)]) (hf : f_X6_hoursUntilItPasses_b2 G n x0 x1 x2 x3 h = some (rr, hh)), W p l e rm_X6_hoursUntilItPasses s m args below meth c H locs 0 0 (Fq G (some (.int rr)) hh below args s rm_X6_hoursUntilItPasses.cells rm_X6_hoursUntilItPasses.slots) (F0 m 2 ls []) := by
  have hx := X.1
  have hb := X.2.1
  intro n
  induction n with
  | zero =>
    intro x0 x1 x2 x3 h H locs ls hH hl hf
    have hf : (none : Option (Int32 × PH)) = some (rr, hh) := hf
    cases hf
  | succ n ih =>
    intro x0 x1 x2 x3 h H locs ls hH hl hf
    have hf : f_X6_hoursUntilItPasses_b2_body G (f_X6_hoursUntilItPasses_b2 G n) x0 x1 x2 x3 h = some (rr, hh) := hf
    generalize f_X6_hoursUntilItPasses_b2 G n = k2 at hf ih
    have ik2 := ih
    unfold f_X6_hoursUntilItPasses_b2_body at hf
    refine lv_iload_n hx hb dX6_hoursUntilItPasses_2 rfl (lv_at hl 3 rfl) ?_
    refine lv_iload_n hx hb dX6_hoursUntilItPasses_3 rfl (lv_at hl 2 rfl) ?_
    refine p_icmp_ge X hf dX6_hoursUntilItPasses_4 (tgt := 59) (by decide) (fun _ hf => ?_) (fun _ hf => ?_)
    · refine lv_iload_n hx hb dX6_hoursUntilItPasses_59 rfl (lv_at hl 2 rfl) ?_
      exact p_iret X hH hf (by decide) (by decide) dX6_hoursUntilItPasses_60
    · refine lv_aload_n hx hb dX6_hoursUntilItPasses_7 rfl (lv_at hl 0 rfl) ?_
      refine p_getR X hH fg_RX6_38 hf dX6_hoursUntilItPasses_8 (fun v1 _ hf => ?_)
      refine lv_aload_n hx hb dX6_hoursUntilItPasses_11 rfl (lv_at hl 0 rfl) ?_
      refine lv_aload_n hx hb dX6_hoursUntilItPasses_12 rfl (lv_at hl 0 rfl) ?_
      refine p_getI X hH fg_RX6_145 hf dX6_hoursUntilItPasses_13 (fun v2 _ hf => ?_)
      refine lv_iload_n hx hb dX6_hoursUntilItPasses_16 rfl (lv_at hl 3 rfl) ?_
      refine lv_iadd hx hb dX6_hoursUntilItPasses_17 ?_
      refine p_cVR (As := [.int (v2 + x3)]) (b := x0) (rest := [.ref v1]) (ci := 7) X hH rfl hf (fun _ _ e_ => c_X6_windAt l G x0 (v2 + x3) h _ _ e_) mv_X6_windAt lk_RX6_79 (by decide) rfl hl.1 (Nat.le_of_ble_eq_true rfl) dX6_hoursUntilItPasses_18 (c2 := 0) (s2 := 0) (by decide) (fun v3 h H locs hH hf => ?_)
      refine p_cVV (As := [.ref v3]) (b := v1) (rest := []) (ci := 4) X hH rfl hf (fun _ _ e_ => c_X3_blowOnAll l G v1 v3 h _ _ e_) mv_X3_blowOnAll lk_RX6_191 (by decide) rfl hl.1 (Nat.le_of_ble_eq_true rfl) dX6_hoursUntilItPasses_21 (c2 := 0) (s2 := 0) (by decide) (fun _ h H locs hH hf => ?_)
      refine lv_aload_n hx hb dX6_hoursUntilItPasses_24 rfl (lv_at hl 0 rfl) ?_
      refine p_getR X hH fg_RX6_38 hf dX6_hoursUntilItPasses_25 (fun v4 _ hf => ?_)
      refine lv_aload_n hx hb dX6_hoursUntilItPasses_28 rfl (lv_at hl 1 rfl) ?_
      refine p_cVI (As := [.ref x1]) (b := v4) (rest := []) (ci := 4) X hH rfl hf (fun _ _ e_ => c_X3_carries l G v4 x1 h _ _ e_) mv_X3_carries lk_RX6_272 (by decide) rfl hl.1 (Nat.le_of_ble_eq_true rfl) dX6_hoursUntilItPasses_29 (c2 := 0) (s2 := 0) (by decide) (fun v5 h H locs hH hf => ?_)
      refine p_if_eq X hf dX6_hoursUntilItPasses_32 (tgt := 37) (by decide) (fun _ hf => ?_) (fun _ hf => ?_)
      · refine lv_aload_n hx hb dX6_hoursUntilItPasses_37 rfl (lv_at hl 0 rfl) ?_
        refine lv_aload_n hx hb dX6_hoursUntilItPasses_38 rfl (lv_at hl 0 rfl) ?_
        refine p_getR X hH fg_RX6_38 hf dX6_hoursUntilItPasses_39 (fun v6 _ hf => ?_)
        refine lv_aload_n hx hb dX6_hoursUntilItPasses_42 rfl (lv_at hl 0 rfl) ?_
        refine p_getI X hH fg_RX6_145 hf dX6_hoursUntilItPasses_43 (fun v7 _ hf => ?_)
        refine lv_iload_n hx hb dX6_hoursUntilItPasses_46 rfl (lv_at hl 3 rfl) ?_
        refine lv_iadd hx hb dX6_hoursUntilItPasses_47 ?_
        refine lv_iconst (v := 0) hx hb dX6_hoursUntilItPasses_48 (by decide) ?_
        refine p_cVI (As := [.ref v6, .int (v7 + x3), .int (0 : Int32)]) (b := x0) (rest := []) (ci := 7) X hH rfl hf (fun _ _ e_ => c_X6_voteAndRain l G x0 v6 (v7 + x3) (0 : Int32) h _ _ e_) mv_X6_voteAndRain lk_RX6_195 (by decide) rfl hl.1 (Nat.le_of_ble_eq_true rfl) dX6_hoursUntilItPasses_49 (c2 := 0) (s2 := 0) (by decide) (fun v8 h H locs hH hf => ?_)
        refine lv_pop hx hb dX6_hoursUntilItPasses_52 rfl ?_
        refine lv_iinc (v := (x3 + (1 : Int32))) (lv' := [(3, .int (x3 + (1 : Int32))), (0, .ref x0), (1, .ref x1), (2, .int x2)]) hx hb dX6_hoursUntilItPasses_53 hl (k := 3) rfl rfl (by decide) rfl (fun ls hl => ?_)
        refine lv_goto (tgt := 2) hx hb dX6_hoursUntilItPasses_56 (by decide) ?_
        exact ik2 x0 x1 x2 (x3 + (1 : Int32)) h H locs ls hH (lv_sub hl [1, 2, 3, 0] rfl) hf
      · refine lv_iload_n hx hb dX6_hoursUntilItPasses_35 rfl (lv_at hl 3 rfl) ?_
        exact p_iret X hH hf (by decide) (by decide) dX6_hoursUntilItPasses_36
set_option maxRecDepth 100000 in
set_option maxHeartbeats 4000000 in
theorem c_X6_hoursUntilItPasses (l : Launch) (G : GE) (x0 : Nat) (x1 : Nat) (x2 : Int32) (h : PH) (rr : Int32) (hh : PH) (hf : f_X6_hoursUntilItPasses G x0 x1 x2 h = some (rr, hh)) : Ct l yX6_hoursUntilItPasses cX6_hoursUntilItPasses 4 (some .int) rm_X6_hoursUntilItPasses G [.ref x0, .ref x1, .int x2] h (some (.int rr)) hh := by
  refine Ct.of (plainFor_of_name (by decide)) (Nat.le_of_ble_eq_true rfl) ?_
  intro p e s m args below meth c ls X hH hl
  have hl : lv_has ls 4 [(0, .ref x0), (1, .ref x1), (2, .int x2)] := hl
  have X : Cx G p s m args meth c cX6_hoursUntilItPasses 4 RX6 "hoursUntilItPasses" (some .int) := X
  have hx := X.1
  have hb := X.2.1
  unfold f_X6_hoursUntilItPasses at hf
  obtain ⟨H, hHe⟩ : ∃ z, z = s.heap := ⟨_, rfl⟩
  obtain ⟨locs, hLe⟩ : ∃ z, z = ([] : List Loc) := ⟨_, rfl⟩
  rw [← hHe, ← hLe] at hH
  rw [← hHe, ← hLe]
  refine lv_iconst (v := 0) hx hb dX6_hoursUntilItPasses_0 (by decide) ?_
  refine lv_istore_n (lv' := [(3, .int (0 : Int32)), (0, .ref x0), (1, .ref x1), (2, .int x2)]) hx hb dX6_hoursUntilItPasses_1 rfl hl (by decide) rfl (fun ls hl => ?_)
  exact w_X6_hoursUntilItPasses_b2 l X LF x0 x1 x2 (0 : Int32) h H locs ls hH (lv_sub hl [1, 2, 3, 0] rfl) hf
set_option maxRecDepth 100000 in
set_option maxHeartbeats 4000000 in
theorem w_X6_passes_b103 {G : GE} {p : Program} (l : Launch) {e : Env} {s : State} {m : MethodId} {args : Array Value} {below : List Frame} {meth : Method} {c : Code} {rr : (Sum Int32 String)} {hh : PH} (X : Cx G p s m args meth c cX6_passes 4 RX6 "passes" (some .int)) (hfl : l.stackTraces = false) (hex : ∀ x ∈ c.exceptionTable.toList, False) (t0 : Int32) (h : PH) (H : Heap) (locs : List Loc) (ls : Array Slot) (hH : Hx G s h H locs) (hl : lv_has ls 4 []) (hf : f_X6_passes_b103 G t0 h = some (rr, hh)) : W p l e rm_X6_passes s m args below meth c H locs 0 0 (Xq G rr hh below args s rm_X6_passes.cells rm_X6_passes.slots) (F0 m 103 ls [.int t0]) := by
  have hx := X.1
  have hb := X.2.1
  unfold f_X6_passes_b103 at hf
  exact p_xret X hH hf (by decide) (by decide) dX6_passes_103
set_option maxRecDepth 100000 in
set_option maxHeartbeats 4000000 in
theorem c_X6_passes (l : Launch) (hfl : l.stackTraces = false) (G : GE) (x0 : Nat) (x1 : Int32) (x2 : Int32) (h : PH) (rr : (Sum Int32 String)) (hh : PH) (hf : f_X6_passes G x0 x1 x2 h = some (rr, hh)) : Xt l yX6_passes cX6_passes 4 rm_X6_passes G [.ref x0, .int x1, .int x2] h rr hh := by
  refine Xt.of (by decide) (Nat.le_of_ble_eq_true rfl) ?_
  intro p e s m args below meth c ls X hex hH hl
  have hl : lv_has ls 4 [(0, .ref x0), (1, .int x1), (2, .int x2)] := hl
  have X : Cx G p s m args meth c cX6_passes 4 RX6 "passes" (some .int) := X
  have hx := X.1
  have hb := X.2.1
  unfold f_X6_passes at hf
  obtain ⟨H, hHe⟩ : ∃ z, z = s.heap := ⟨_, rfl⟩
  obtain ⟨locs, hLe⟩ : ∃ z, z = ([] : List Loc) := ⟨_, rfl⟩
  rw [← hHe, ← hLe] at hH
  rw [← hHe, ← hLe]
  refine lv_aload_n hx hb dX6_passes_0 rfl (lv_at hl 0 rfl) ?_
  refine lv_iload_n hx hb dX6_passes_1 rfl (lv_at hl 1 rfl) ?_
  refine p_cVI (As := [.int x1]) (b := x0) (rest := []) (ci := 7) X hH rfl hf (fun _ _ e_ => c_X6_isMotion l G x0 x1 h _ _ e_) mv_X6_isMotion lk_RX6_164 (by decide) rfl hl.1 (Nat.le_of_ble_eq_true rfl) dX6_passes_2 (c2 := 0) (s2 := 0) (by decide) (fun v1 h H locs hH hf => ?_)
  refine p_if_ne X hf dX6_passes_5 (tgt := 18) (by decide) (fun _ hf => ?_) (fun _ hf => ?_)
  · refine lv_iload_n hx hb dX6_passes_18 rfl (lv_at hl 2 rfl) ?_
    refine lv_iconst (v := 1) hx hb dX6_passes_19 (by decide) ?_
    refine lv_bipush (v := 100) hx hb dX6_passes_20 (by decide) ?_
    refine p_cSI (As := [.int x2, .int (1 : Int32), .int (100 : Int32)]) (rest := []) X hH hf (fun _ _ e_ => c_X6_isWithin l G x2 (1 : Int32) (100 : Int32) h _ _ e_) ms_X6_isWithin lk_RX6_49 (by decide) rfl hl.1 (Nat.le_of_ble_eq_true rfl) dX6_passes_22 (c2 := 0) (s2 := 0) (by decide) (fun v2 h H locs hH hf => ?_)
    refine p_if_ne X hf dX6_passes_25 (tgt := 38) (by decide) (fun _ hf => ?_) (fun _ hf => ?_)
    · refine lv_aload_n hx hb dX6_passes_38 rfl (lv_at hl 0 rfl) ?_
      refine p_getI X hH fg_RX6_145 hf dX6_passes_39 (fun v3 _ hf => ?_)
      refine lv_iload_n hx hb dX6_passes_42 rfl (lv_at hl 2 rfl) ?_
      refine lv_iadd hx hb dX6_passes_43 ?_
      refine lv_sipush (v := 2000) hx hb dX6_passes_44 (by decide) ?_
      refine p_icmp_le X hf dX6_passes_47 (tgt := 60) (by decide) (fun _ hf => ?_) (fun _ hf => ?_)
      · refine lv_aload_n hx hb dX6_passes_60 rfl (lv_at hl 0 rfl) ?_
        refine p_getR X hH fg_RX6_38 hf dX6_passes_61 (fun v4 _ hf => ?_)
        refine lv_aload_n hx hb dX6_passes_64 rfl (lv_at hl 0 rfl) ?_
        refine p_getR X hH fg_RX6_34 hf dX6_passes_65 (fun v5 _ hf => ?_)
        refine p_cVV (As := [.ref v5]) (b := v4) (rest := []) (ci := 4) X hH rfl hf (fun _ _ e_ => c_X3_copyAllFrom l G v4 v5 h _ _ e_) mv_X3_copyAllFrom lk_RX6_228 (by decide) rfl hl.1 (Nat.le_of_ble_eq_true rfl) dX6_passes_68 (c2 := 0) (s2 := 0) (by decide) (fun _ h H locs hH hf => ?_)
        refine lv_aload_n hx hb dX6_passes_71 rfl (lv_at hl 0 rfl) ?_
        refine lv_aload_n hx hb dX6_passes_72 rfl (lv_at hl 0 rfl) ?_
        refine p_getR X hH fg_RX6_25 hf dX6_passes_73 (fun v6 _ hf => ?_)
        refine lv_iload_n hx hb dX6_passes_76 rfl (lv_at hl 1 rfl) ?_
        refine p_cVR (As := [.int x1]) (b := v6) (rest := [.ref x0]) (ci := 0) X hH rfl hf (fun _ _ e_ => c_Jx4a65c_get_915e3 l G v6 x1 h _ _ e_) mv_Jx4a65c_get_915e3 lk_RX6_119 (by decide) rfl hl.1 (Nat.le_of_ble_eq_true rfl) dX6_passes_77 (c2 := 0) (s2 := 0) (by decide) (fun v7 h H locs hH hf => ?_)
        refine p_cast X hH (ci := 3) rfl m_327 hf dX6_passes_80 (fun _ hf => ?_)
        refine lv_iload_n hx hb dX6_passes_83 rfl (lv_at hl 2 rfl) ?_
        refine p_cVI (As := [.ref v7, .int x2]) (b := x0) (rest := []) (ci := 7) X hH rfl hf (fun _ _ e_ => c_X6_hoursUntilItPasses l G x0 v7 x2 h _ _ e_) mv_X6_hoursUntilItPasses lk_RX6_235 (by decide) rfl hl.1 (Nat.le_of_ble_eq_true rfl) dX6_passes_84 (c2 := 0) (s2 := 0) (by decide) (fun v8 h H locs hH hf => ?_)
        refine lv_istore_n (lv' := [(3, .int v8), (0, .ref x0), (1, .int x1), (2, .int x2)]) hx hb dX6_passes_87 rfl hl (by decide) rfl (fun ls hl => ?_)
        refine lv_iload_n hx hb dX6_passes_88 rfl (lv_at hl 0 rfl) ?_
        refine lv_iload_n hx hb dX6_passes_89 rfl (lv_at hl 3 rfl) ?_
        refine p_icmp_ge X hf dX6_passes_90 (tgt := 102) (by decide) (fun _ hf => ?_) (fun _ hf => ?_)
        · refine lv_iconst (v := -1) hx hb dX6_passes_102 (by decide) ?_
          exact w_X6_passes_b103 l X hfl hex (-1 : Int32) h H locs ls hH (lv_sub hl [] rfl) hf
        · refine lv_aload_n hx hb dX6_passes_93 rfl (lv_at hl 1 rfl) ?_
          refine p_getI X hH fg_RX6_145 hf dX6_passes_94 (fun v9 _ hf => ?_)
          refine lv_iload_n hx hb dX6_passes_97 rfl (lv_at hl 0 rfl) ?_
          refine lv_iadd hx hb dX6_passes_98 ?_
          refine lv_goto (tgt := 103) hx hb dX6_passes_99 (by decide) ?_
          exact w_X6_passes_b103 l X hfl hex (v9 + v8) h H locs ls hH (lv_sub hl [] rfl) hf
      · exact p_thr_ise X hH (strs_189) hf hfl hex hl.1 (by decide) (by decide) (by decide) (by decide) (by decide) (by decide) dX6_passes_50 dX6_passes_53 dX6_passes_54 dX6_passes_56 dX6_passes_59
    · exact p_thr_iae X hH (strs_187) hf hfl hex hl.1 (by decide) (by decide) (by decide) (by decide) (by decide) (by decide) dX6_passes_28 dX6_passes_31 dX6_passes_32 dX6_passes_34 dX6_passes_37
  · exact p_thr_ioo X hH (strs_167) hf hfl hex hl.1 (by decide) (by decide) (by decide) (by decide) (by decide) (by decide) dX6_passes_8 dX6_passes_11 dX6_passes_12 dX6_passes_14 dX6_passes_17
set_option maxRecDepth 100000 in
set_option maxHeartbeats 4000000 in
theorem w_X6_advise_b169 {G : GE} {p : Program} (l : Launch) {e : Env} {s : State} {m : MethodId} {args : Array Value} {below : List Frame} {meth : Method} {c : Code} {rr : (Sum Int32 String)} {hh : PH} (X : Cx G p s m args meth c cX6_advise 7 RX6 "advise" (some .int)) (hfl : l.stackTraces = false) (hex : ∀ x ∈ c.exceptionTable.toList, False) (k94 : Nat → Int32 → Int32 → Int32 → Int32 → PH → Option ((Sum Int32 String) × PH)) (ik94 : ∀ (x0 : Nat) (x1 : Int32) (x3 : Int32) (x4 : Int32) (x5 : Int32) (h : PH) (H : Heap) (locs : List Loc) (ls : Array Slot), Hx G s h H locs → lv_has ls 7 [(0, .ref x0), (1, .int x1), (3, .int x3), (4, .int x4), (5, .int x5)] → k94 x0 x1 x3 x4 x5 h = some (rr, hh) → W p l e rm_X6_advise s m args below meth c H locs 0 0 (Xq G rr hh below args s rm_X6_advise.cells rm_X6_advise.slots) (F0 m 94 ls [])) (x0 : Nat) (x1 : Int32) (x3 : Int32) (x4 : Int32) (x5 : Int32) (h : PH) (H : Heap) (locs : List Loc) (ls : Array Slot) (hH : Hx G s h H locs) (hl : lv_has ls 7 [(0, .ref x0), (1, .int x1), (3, .int x3), (4, .int x4), (5, .int x5)]) (hf : f_X6_advise_b169 G k94 x0 x1 x3 x4 x5 h = some (rr, hh)) : W p l e rm_X6_advise s m args below meth c H locs 0 0 (Xq G rr hh below args s rm_X6_advise.cells rm_X6_advise.slots) (F0 m 169 ls []) := by
  have hx := X.1
  have hb := X.2.1
  unfold f_X6_advise_b169 at hf
  refine lv_iinc (v := (x5 + (1 : Int32))) (lv' := [(5, .int (x5 + (1 : Int32))), (0, .ref x0), (1, .int x1), (3, .int x3), (4, .int x4)]) hx hb dX6_advise_169 hl (k := 4) rfl rfl (by decide) rfl (fun ls hl => ?_)
  refine lv_goto (tgt := 94) hx hb dX6_advise_172 (by decide) ?_
  exact ik94 x0 x1 x3 x4 (x5 + (1 : Int32)) h H locs ls hH (lv_sub hl [1, 2, 3, 4, 0] rfl) hf
set_option maxRecDepth 100000 in
set_option maxHeartbeats 4000000 in
theorem w_X6_advise_b94 {G : GE} {p : Program} (l : Launch) {e : Env} {s : State} {m : MethodId} {args : Array Value} {below : List Frame} {meth : Method} {c : Code} {rr : (Sum Int32 String)} {hh : PH} (X : Cx G p s m args meth c cX6_advise 7 RX6 "advise" (some .int)) (hfl : l.stackTraces = false) (hex : ∀ x ∈ c.exceptionTable.toList, False) : ∀ (n : Nat) (x0 : Nat) (x1 : Int32) (x3 : Int32) (x4 : Int32) (x5 : Int32) (h : PH) (H : Heap) (locs : List Loc) (ls : Array Slot) (hH : Hx G s h H locs) (hl : lv_has ls 7 [(0, .ref x0), (1, .int x1), (3, .int x3), (4, .int x4), (5, .int x5)]) (hf : f_X6_advise_b94 G n x0 x1 x3 x4 x5 h = some (rr, hh)), W p l e rm_X6_advise s m args below meth c H locs 0 0 (Xq G rr hh below args s rm_X6_advise.cells rm_X6_advise.slots) (F0 m 94 ls []) := by
  have hx := X.1
  have hb := X.2.1
  intro n
  induction n with
  | zero =>
    intro x0 x1 x3 x4 x5 h H locs ls hH hl hf
    have hf : (none : Option ((Sum Int32 String) × PH)) = some (rr, hh) := hf
    cases hf
  | succ n ih =>
    intro x0 x1 x3 x4 x5 h H locs ls hH hl hf
    have hf : f_X6_advise_b94_body G (f_X6_advise_b94 G n) x0 x1 x3 x4 x5 h = some (rr, hh) := hf
    generalize f_X6_advise_b94 G n = k94 at hf ih
    have ik94 := ih
    unfold f_X6_advise_b94_body at hf
    refine lv_iload hx hb dX6_advise_94 (lv_at hl 4 rfl) ?_
    refine lv_aload_n hx hb dX6_advise_96 rfl (lv_at hl 0 rfl) ?_
    refine p_getR X hH fg_RX6_38 hf dX6_advise_97 (fun v9 _ hf => ?_)
    refine p_getR X hH fg_RX6_95 hf dX6_advise_100 (fun v10 _ hf => ?_)
    refine p_cVI (As := []) (b := v10) (rest := [.int x5]) (ci := 0) X hH rfl hf (fun _ _ e_ => c_Jx4a65c_size_8abf5 l G v10 h _ _ e_) mv_Jx4a65c_size_8abf5 lk_RX6_60 (by decide) rfl hl.1 (Nat.le_of_ble_eq_true rfl) dX6_advise_103 (c2 := 0) (s2 := 0) (by decide) (fun v11 h H locs hH hf => ?_)
    refine p_icmp_ge X hf dX6_advise_106 (tgt := 175) (by decide) (fun _ hf => ?_) (fun _ hf => ?_)
    · refine lv_iload hx hb dX6_advise_175 (lv_at hl 3 rfl) ?_
      exact p_xret X hH hf (by decide) (by decide) dX6_advise_177
    · refine lv_aload_n hx hb dX6_advise_109 rfl (lv_at hl 0 rfl) ?_
      refine p_getR X hH fg_RX6_38 hf dX6_advise_110 (fun v12 _ hf => ?_)
      refine lv_aload_n hx hb dX6_advise_113 rfl (lv_at hl 0 rfl) ?_
      refine p_getR X hH fg_RX6_34 hf dX6_advise_114 (fun v13 _ hf => ?_)
      refine p_cVV (As := [.ref v13]) (b := v12) (rest := []) (ci := 4) X hH rfl hf (fun _ _ e_ => c_X3_copyAllFrom l G v12 v13 h _ _ e_) mv_X3_copyAllFrom lk_RX6_228 (by decide) rfl hl.1 (Nat.le_of_ble_eq_true rfl) dX6_advise_117 (c2 := 0) (s2 := 0) (by decide) (fun _ h H locs hH hf => ?_)
      refine lv_aload_n hx hb dX6_advise_120 rfl (lv_at hl 0 rfl) ?_
      refine p_getR X hH fg_RX6_38 hf dX6_advise_121 (fun v14 _ hf => ?_)
      refine p_getR X hH fg_RX6_95 hf dX6_advise_124 (fun v15 _ hf => ?_)
      refine lv_iload hx hb dX6_advise_127 (lv_at hl 4 rfl) ?_
      refine p_cVR (As := [.int x5]) (b := v15) (rest := []) (ci := 0) X hH rfl hf (fun _ _ e_ => c_Jx4a65c_get_915e3 l G v15 x5 h _ _ e_) mv_Jx4a65c_get_915e3 lk_RX6_119 (by decide) rfl hl.1 (Nat.le_of_ble_eq_true rfl) dX6_advise_129 (c2 := 0) (s2 := 0) (by decide) (fun v16 h H locs hH hf => ?_)
      refine p_cast X hH (ci := 5) rfl m_261 hf dX6_advise_132 (fun _ hf => ?_)
      refine p_cVV (As := []) (b := v16) (rest := []) (ci := 5) X hH rfl hf (fun _ _ e_ => c_X4_takeOil l G v16 h _ _ e_) mv_X4_takeOil lk_RX6_127 (by decide) rfl hl.1 (Nat.le_of_ble_eq_true rfl) dX6_advise_135 (c2 := 0) (s2 := 0) (by decide) (fun _ h H locs hH hf => ?_)
      refine lv_aload_n hx hb dX6_advise_138 rfl (lv_at hl 0 rfl) ?_
      refine lv_aload_n hx hb dX6_advise_139 rfl (lv_at hl 0 rfl) ?_
      refine p_getR X hH fg_RX6_25 hf dX6_advise_140 (fun v17 _ hf => ?_)
      refine lv_iload_n hx hb dX6_advise_143 rfl (lv_at hl 1 rfl) ?_
      refine p_cVR (As := [.int x1]) (b := v17) (rest := [.ref x0]) (ci := 0) X hH rfl hf (fun _ _ e_ => c_Jx4a65c_get_915e3 l G v17 x1 h _ _ e_) mv_Jx4a65c_get_915e3 lk_RX6_119 (by decide) rfl hl.1 (Nat.le_of_ble_eq_true rfl) dX6_advise_144 (c2 := 0) (s2 := 0) (by decide) (fun v18 h H locs hH hf => ?_)
      refine p_cast X hH (ci := 3) rfl m_327 hf dX6_advise_147 (fun _ hf => ?_)
      refine lv_iload_n hx hb dX6_advise_150 rfl (lv_at hl 2 rfl) ?_
      refine p_cVI (As := [.ref v18, .int x3]) (b := x0) (rest := []) (ci := 7) X hH rfl hf (fun _ _ e_ => c_X6_hoursUntilItPasses l G x0 v18 x3 h _ _ e_) mv_X6_hoursUntilItPasses lk_RX6_235 (by decide) rfl hl.1 (Nat.le_of_ble_eq_true rfl) dX6_advise_151 (c2 := 0) (s2 := 0) (by decide) (fun v19 h H locs hH hf => ?_)
      refine lv_istore (lv' := [(6, .int v19), (0, .ref x0), (1, .int x1), (3, .int x3), (4, .int x4), (5, .int x5)]) hx hb dX6_advise_154 hl (by decide) rfl (fun ls hl => ?_)
      refine lv_iload hx hb dX6_advise_156 (lv_at hl 0 rfl) ?_
      refine lv_iload_n hx hb dX6_advise_158 rfl (lv_at hl 3 rfl) ?_
      refine p_icmp_ge X hf dX6_advise_159 (tgt := 169) (by decide) (fun _ hf => ?_) (fun _ hf => ?_)
      · exact w_X6_advise_b169 l X hfl hex k94 ik94 x0 x1 x3 x4 x5 h H locs ls hH (lv_sub hl [1, 2, 3, 4, 5] rfl) hf
      · refine lv_iload hx hb dX6_advise_162 (lv_at hl 0 rfl) ?_
        refine lv_istore_n (lv' := [(3, .int v19), (6, .int v19), (0, .ref x0), (1, .int x1), (4, .int x4), (5, .int x5)]) hx hb dX6_advise_164 rfl hl (by decide) rfl (fun ls hl => ?_)
        refine lv_iload hx hb dX6_advise_165 (lv_at hl 5 rfl) ?_
        refine lv_istore (lv' := [(4, .int x5), (3, .int v19), (6, .int v19), (0, .ref x0), (1, .int x1), (5, .int x5)]) hx hb dX6_advise_167 hl (by decide) rfl (fun ls hl => ?_)
        exact w_X6_advise_b169 l X hfl hex k94 ik94 x0 x1 v19 x5 x5 h H locs ls hH (lv_sub hl [3, 4, 1, 0, 5] rfl) hf
set_option maxRecDepth 100000 in
set_option maxHeartbeats 4000000 in
theorem c_X6_advise (l : Launch) (hfl : l.stackTraces = false) (G : GE) (x0 : Nat) (x1 : Int32) (x2 : Int32) (h : PH) (rr : (Sum Int32 String)) (hh : PH) (hf : f_X6_advise G x0 x1 x2 h = some (rr, hh)) : Xt l yX6_advise cX6_advise 7 rm_X6_advise G [.ref x0, .int x1, .int x2] h rr hh := by
  refine Xt.of (by decide) (Nat.le_of_ble_eq_true rfl) ?_
  intro p e s m args below meth c ls X hex hH hl
  have hl : lv_has ls 7 [(0, .ref x0), (1, .int x1), (2, .int x2)] := hl
  have X : Cx G p s m args meth c cX6_advise 7 RX6 "advise" (some .int) := X
  have hx := X.1
  have hb := X.2.1
  unfold f_X6_advise at hf
  obtain ⟨H, hHe⟩ : ∃ z, z = s.heap := ⟨_, rfl⟩
  obtain ⟨locs, hLe⟩ : ∃ z, z = ([] : List Loc) := ⟨_, rfl⟩
  rw [← hHe, ← hLe] at hH
  rw [← hHe, ← hLe]
  refine lv_aload_n hx hb dX6_advise_0 rfl (lv_at hl 0 rfl) ?_
  refine lv_iload_n hx hb dX6_advise_1 rfl (lv_at hl 1 rfl) ?_
  refine p_cVI (As := [.int x1]) (b := x0) (rest := []) (ci := 7) X hH rfl hf (fun _ _ e_ => c_X6_isMotion l G x0 x1 h _ _ e_) mv_X6_isMotion lk_RX6_164 (by decide) rfl hl.1 (Nat.le_of_ble_eq_true rfl) dX6_advise_2 (c2 := 0) (s2 := 0) (by decide) (fun v1 h H locs hH hf => ?_)
  refine p_if_ne X hf dX6_advise_5 (tgt := 18) (by decide) (fun _ hf => ?_) (fun _ hf => ?_)
  · refine lv_iload_n hx hb dX6_advise_18 rfl (lv_at hl 2 rfl) ?_
    refine lv_iconst (v := 1) hx hb dX6_advise_19 (by decide) ?_
    refine lv_bipush (v := 50) hx hb dX6_advise_20 (by decide) ?_
    refine p_cSI (As := [.int x2, .int (1 : Int32), .int (50 : Int32)]) (rest := []) X hH hf (fun _ _ e_ => c_X6_isWithin l G x2 (1 : Int32) (50 : Int32) h _ _ e_) ms_X6_isWithin lk_RX6_49 (by decide) rfl hl.1 (Nat.le_of_ble_eq_true rfl) dX6_advise_22 (c2 := 0) (s2 := 0) (by decide) (fun v2 h H locs hH hf => ?_)
    refine p_if_ne X hf dX6_advise_25 (tgt := 38) (by decide) (fun _ hf => ?_) (fun _ hf => ?_)
    · refine lv_aload_n hx hb dX6_advise_38 rfl (lv_at hl 0 rfl) ?_
      refine p_getI X hH fg_RX6_145 hf dX6_advise_39 (fun v3 _ hf => ?_)
      refine lv_iload_n hx hb dX6_advise_42 rfl (lv_at hl 2 rfl) ?_
      refine lv_iadd hx hb dX6_advise_43 ?_
      refine lv_sipush (v := 2000) hx hb dX6_advise_44 (by decide) ?_
      refine p_icmp_le X hf dX6_advise_47 (tgt := 60) (by decide) (fun _ hf => ?_) (fun _ hf => ?_)
      · refine lv_aload_n hx hb dX6_advise_60 rfl (lv_at hl 0 rfl) ?_
        refine p_getR X hH fg_RX6_38 hf dX6_advise_61 (fun v4 _ hf => ?_)
        refine lv_aload_n hx hb dX6_advise_64 rfl (lv_at hl 0 rfl) ?_
        refine p_getR X hH fg_RX6_34 hf dX6_advise_65 (fun v5 _ hf => ?_)
        refine p_cVV (As := [.ref v5]) (b := v4) (rest := []) (ci := 4) X hH rfl hf (fun _ _ e_ => c_X3_copyAllFrom l G v4 v5 h _ _ e_) mv_X3_copyAllFrom lk_RX6_228 (by decide) rfl hl.1 (Nat.le_of_ble_eq_true rfl) dX6_advise_68 (c2 := 0) (s2 := 0) (by decide) (fun _ h H locs hH hf => ?_)
        refine lv_aload_n hx hb dX6_advise_71 rfl (lv_at hl 0 rfl) ?_
        refine lv_aload_n hx hb dX6_advise_72 rfl (lv_at hl 0 rfl) ?_
        refine p_getR X hH fg_RX6_25 hf dX6_advise_73 (fun v6 _ hf => ?_)
        refine lv_iload_n hx hb dX6_advise_76 rfl (lv_at hl 1 rfl) ?_
        refine p_cVR (As := [.int x1]) (b := v6) (rest := [.ref x0]) (ci := 0) X hH rfl hf (fun _ _ e_ => c_Jx4a65c_get_915e3 l G v6 x1 h _ _ e_) mv_Jx4a65c_get_915e3 lk_RX6_119 (by decide) rfl hl.1 (Nat.le_of_ble_eq_true rfl) dX6_advise_77 (c2 := 0) (s2 := 0) (by decide) (fun v7 h H locs hH hf => ?_)
        refine p_cast X hH (ci := 3) rfl m_327 hf dX6_advise_80 (fun _ hf => ?_)
        refine lv_iload_n hx hb dX6_advise_83 rfl (lv_at hl 2 rfl) ?_
        refine p_cVI (As := [.ref v7, .int x2]) (b := x0) (rest := []) (ci := 7) X hH rfl hf (fun _ _ e_ => c_X6_hoursUntilItPasses l G x0 v7 x2 h _ _ e_) mv_X6_hoursUntilItPasses lk_RX6_235 (by decide) rfl hl.1 (Nat.le_of_ble_eq_true rfl) dX6_advise_84 (c2 := 0) (s2 := 0) (by decide) (fun v8 h H locs hH hf => ?_)
        refine lv_istore_n (lv' := [(3, .int v8), (0, .ref x0), (1, .int x1), (2, .int x2)]) hx hb dX6_advise_87 rfl hl (by decide) rfl (fun ls hl => ?_)
        refine lv_iconst (v := -1) hx hb dX6_advise_88 (by decide) ?_
        refine lv_istore (lv' := [(4, .int (-1 : Int32)), (3, .int v8), (0, .ref x0), (1, .int x1), (2, .int x2)]) hx hb dX6_advise_89 hl (by decide) rfl (fun ls hl => ?_)
        refine lv_iconst (v := 0) hx hb dX6_advise_91 (by decide) ?_
        refine lv_istore (lv' := [(5, .int (0 : Int32)), (4, .int (-1 : Int32)), (3, .int v8), (0, .ref x0), (1, .int x1), (2, .int x2)]) hx hb dX6_advise_92 hl (by decide) rfl (fun ls hl => ?_)
        exact w_X6_advise_b94 l X hfl hex LF x0 x1 v8 (-1 : Int32) (0 : Int32) h H locs ls hH (lv_sub hl [3, 4, 2, 1, 0] rfl) hf
      · exact p_thr_ise X hH (strs_189) hf hfl hex hl.1 (by decide) (by decide) (by decide) (by decide) (by decide) (by decide) dX6_advise_50 dX6_advise_53 dX6_advise_54 dX6_advise_56 dX6_advise_59
    · exact p_thr_iae X hH (strs_187) hf hfl hex hl.1 (by decide) (by decide) (by decide) (by decide) (by decide) (by decide) dX6_advise_28 dX6_advise_31 dX6_advise_32 dX6_advise_34 dX6_advise_37
  · exact p_thr_ioo X hH (strs_167) hf hfl hex hl.1 (by decide) (by decide) (by decide) (by decide) (by decide) (by decide) dX6_advise_8 dX6_advise_11 dX6_advise_12 dX6_advise_14 dX6_advise_17
set_option maxRecDepth 100000 in
set_option maxHeartbeats 4000000 in
theorem w_X6_discord_b21 {G : GE} {p : Program} (l : Launch) {e : Env} {s : State} {m : MethodId} {args : Array Value} {below : List Frame} {meth : Method} {c : Code} {rr : UInt64} {hh : PH} (X : Cx G p s m args meth c cX6_discord 4 RX6 "discord" (some .double)) : ∀ (n : Nat) (x0 : Nat) (x1 : Int32) (x2 : Int32) (x3 : Int32) (h : PH) (H : Heap) (locs : List Loc) (ls : Array Slot) (hH : Hx G s h H locs) (hl : lv_has ls 4 [(0, .ref x0), (1, .int x1), (2, .int x2), (3, .int x3)]) (hf : f_X6_discord_b21 G n x0 x1 x2 x3 h = some (rr, hh)), W p l e rm_X6_discord s m args below meth c H locs 0 0 (Fq G (some (.double rr)) hh below args s rm_X6_discord.cells rm_X6_discord.slots) (F0 m 21 ls []) := by
  have hx := X.1
  have hb := X.2.1
  intro n
  induction n with
  | zero =>
    intro x0 x1 x2 x3 h H locs ls hH hl hf
    have hf : (none : Option (UInt64 × PH)) = some (rr, hh) := hf
    cases hf
  | succ n ih =>
    intro x0 x1 x2 x3 h H locs ls hH hl hf
    have hf : f_X6_discord_b21_body G (f_X6_discord_b21 G n) x0 x1 x2 x3 h = some (rr, hh) := hf
    generalize f_X6_discord_b21 G n = k21 at hf ih
    have ik21 := ih
    unfold f_X6_discord_b21_body at hf
    refine lv_iload_n hx hb dX6_discord_21 rfl (lv_at hl 3 rfl) ?_
    refine lv_iload_n hx hb dX6_discord_22 rfl (lv_at hl 1 rfl) ?_
    refine p_icmp_ge X hf dX6_discord_23 (tgt := 66) (by decide) (fun _ hf => ?_) (fun _ hf => ?_)
    · refine lv_iload_n hx hb dX6_discord_66 rfl (lv_at hl 2 rfl) ?_
      refine lv_i2d hx hb dX6_discord_67 ?_
      refine lv_iload_n hx hb dX6_discord_68 rfl (lv_at hl 1 rfl) ?_
      refine lv_i2d hx hb dX6_discord_69 ?_
      refine p_ddiv X hf dX6_discord_70 (fun hf => ?_)
      exact p_dret X hH hf (by decide) (by decide) dX6_discord_71
    · refine lv_iload_n hx hb dX6_discord_26 rfl (lv_at hl 2 rfl) ?_
      refine lv_aload_n hx hb dX6_discord_27 rfl (lv_at hl 0 rfl) ?_
      refine p_getR X hH fg_RX6_34 hf dX6_discord_28 (fun v4 _ hf => ?_)
      refine p_getR X hH fg_RX6_95 hf dX6_discord_31 (fun v5 _ hf => ?_)
      refine lv_iload_n hx hb dX6_discord_34 rfl (lv_at hl 3 rfl) ?_
      refine p_cVR (As := [.int x3]) (b := v5) (rest := [.int x2]) (ci := 0) X hH rfl hf (fun _ _ e_ => c_Jx4a65c_get_915e3 l G v5 x3 h _ _ e_) mv_Jx4a65c_get_915e3 lk_RX6_119 (by decide) rfl hl.1 (Nat.le_of_ble_eq_true rfl) dX6_discord_35 (c2 := 0) (s2 := 0) (by decide) (fun v6 h H locs hH hf => ?_)
      refine p_cast X hH (ci := 5) rfl m_261 hf dX6_discord_38 (fun _ hf => ?_)
      refine p_getI X hH fg_RX6_137 hf dX6_discord_41 (fun v7 _ hf => ?_)
      refine lv_aload_n hx hb dX6_discord_44 rfl (lv_at hl 0 rfl) ?_
      refine lv_aload_n hx hb dX6_discord_45 rfl (lv_at hl 0 rfl) ?_
      refine p_getI X hH fg_RX6_145 hf dX6_discord_46 (fun v8 _ hf => ?_)
      refine p_cVR (As := [.int v8]) (b := x0) (rest := [.int v7, .int x2]) (ci := 7) X hH rfl hf (fun _ _ e_ => c_X6_windAt l G x0 v8 h _ _ e_) mv_X6_windAt lk_RX6_79 (by decide) rfl hl.1 (Nat.le_of_ble_eq_true rfl) dX6_discord_49 (c2 := 0) (s2 := 0) (by decide) (fun v9 h H locs hH hf => ?_)
      refine p_getI X hH fg_RX6_239 hf dX6_discord_52 (fun v10 _ hf => ?_)
      refine p_cSI (As := [.int v7, .int v10]) (rest := [.int x2]) X hH hf (fun _ _ e_ => c_X6_distance l G v7 v10 h _ _ e_) ms_X6_distance lk_RX6_240 (by decide) rfl hl.1 (Nat.le_of_ble_eq_true rfl) dX6_discord_55 (c2 := 0) (s2 := 0) (by decide) (fun v11 h H locs hH hf => ?_)
      refine lv_iadd hx hb dX6_discord_58 ?_
      refine lv_istore_n (lv' := [(2, .int (x2 + v11)), (0, .ref x0), (1, .int x1), (3, .int x3)]) hx hb dX6_discord_59 rfl hl (by decide) rfl (fun ls hl => ?_)
      refine lv_iinc (v := (x3 + (1 : Int32))) (lv' := [(3, .int (x3 + (1 : Int32))), (2, .int (x2 + v11)), (0, .ref x0), (1, .int x1)]) hx hb dX6_discord_60 hl (k := 3) rfl rfl (by decide) rfl (fun ls hl => ?_)
      refine lv_goto (tgt := 21) hx hb dX6_discord_63 (by decide) ?_
      exact ik21 x0 x1 (x2 + v11) (x3 + (1 : Int32)) h H locs ls hH (lv_sub hl [2, 3, 1, 0] rfl) hf
set_option maxRecDepth 100000 in
set_option maxHeartbeats 4000000 in
theorem c_X6_discord (l : Launch) (G : GE) (x0 : Nat) (h : PH) (rr : UInt64) (hh : PH) (hf : f_X6_discord G x0 h = some (rr, hh)) : Ct l yX6_discord cX6_discord 4 (some .double) rm_X6_discord G [.ref x0] h (some (.double rr)) hh := by
  refine Ct.of (plainFor_of_name (by decide)) (Nat.le_of_ble_eq_true rfl) ?_
  intro p e s m args below meth c ls X hH hl
  have hl : lv_has ls 4 [(0, .ref x0)] := hl
  have X : Cx G p s m args meth c cX6_discord 4 RX6 "discord" (some .double) := X
  have hx := X.1
  have hb := X.2.1
  unfold f_X6_discord at hf
  obtain ⟨H, hHe⟩ : ∃ z, z = s.heap := ⟨_, rfl⟩
  obtain ⟨locs, hLe⟩ : ∃ z, z = ([] : List Loc) := ⟨_, rfl⟩
  rw [← hHe, ← hLe] at hH
  rw [← hHe, ← hLe]
  refine lv_aload_n hx hb dX6_discord_0 rfl (lv_at hl 0 rfl) ?_
  refine p_getR X hH fg_RX6_34 hf dX6_discord_1 (fun v1 _ hf => ?_)
  refine p_getR X hH fg_RX6_95 hf dX6_discord_4 (fun v2 _ hf => ?_)
  refine p_cVI (As := []) (b := v2) (rest := []) (ci := 0) X hH rfl hf (fun _ _ e_ => c_Jx4a65c_size_8abf5 l G v2 h _ _ e_) mv_Jx4a65c_size_8abf5 lk_RX6_60 (by decide) rfl hl.1 (Nat.le_of_ble_eq_true rfl) dX6_discord_7 (c2 := 0) (s2 := 0) (by decide) (fun v3 h H locs hH hf => ?_)
  refine lv_istore_n (lv' := [(1, .int v3), (0, .ref x0)]) hx hb dX6_discord_10 rfl hl (by decide) rfl (fun ls hl => ?_)
  refine lv_iload_n hx hb dX6_discord_11 rfl (lv_at hl 0 rfl) ?_
  refine p_if_ne X hf dX6_discord_12 (tgt := 17) (by decide) (fun _ hf => ?_) (fun _ hf => ?_)
  · refine lv_iconst (v := 0) hx hb dX6_discord_17 (by decide) ?_
    refine lv_istore_n (lv' := [(2, .int (0 : Int32)), (1, .int v3), (0, .ref x0)]) hx hb dX6_discord_18 rfl hl (by decide) rfl (fun ls hl => ?_)
    refine lv_iconst (v := 0) hx hb dX6_discord_19 (by decide) ?_
    refine lv_istore_n (lv' := [(3, .int (0 : Int32)), (2, .int (0 : Int32)), (1, .int v3), (0, .ref x0)]) hx hb dX6_discord_20 rfl hl (by decide) rfl (fun ls hl => ?_)
    exact w_X6_discord_b21 l X LF x0 v3 (0 : Int32) (0 : Int32) h H locs ls hH (lv_sub hl [3, 2, 1, 0] rfl) hf
  · refine lv_dconst0 hx hb dX6_discord_15 ?_
    exact p_dret X hH hf (by decide) (by decide) dX6_discord_16
