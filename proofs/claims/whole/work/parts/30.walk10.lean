/-! ===== walks (printed by program) ===== -/
set_option maxRecDepth 100000 in
set_option maxHeartbeats 4000000 in
theorem w_X8_count_b28 {G : GE} {p : Program} (l : Launch) {e : Env} {s : State} {m : MethodId} {args : Array Value} {below : List Frame} {meth : Method} {c : Code} {rr : Int32} {hh : PH} (X : Cx G p s m args meth c cX8_count 2 RX8 "count" (some .int)) (t0 : Int32) (h : PH) (H : Heap) (locs : List Loc) (ls : Array Slot) (hH : Hx G s h H locs) (hl : lv_has ls 2 []) (hf : f_X8_count_b28 G t0 h = some (rr, hh)) : W p l e rm_X8_count s m args below meth c H locs 1 9 (Fq G (some (.int rr)) hh below args s rm_X8_count.cells rm_X8_count.slots) (F0 m 28 ls [.int t0]) := by
  have hx := X.1
  have hb := X.2.1
  unfold f_X8_count_b28 at hf
  exact p_iret X hH hf (by decide) (by decide) dX8_count_28
set_option maxRecDepth 100000 in
set_option maxHeartbeats 4000000 in
theorem c_X8_count (l : Launch) (G : GE) (x0 : Nat) (x1 : Int32) (h : PH) (rr : Int32) (hh : PH) (hf : f_X8_count G x0 x1 h = some (rr, hh)) : Ct l yX8_count cX8_count 2 (some .int) rm_X8_count G [.ref x0, .int x1] h (some (.int rr)) hh := by
  refine Ct.of (plainFor_of_name (by decide)) (Nat.le_of_ble_eq_true rfl) ?_
  intro p e s m args below meth c ls X hH hl
  have hl : lv_has ls 2 [(0, .ref x0), (1, .int x1)] := hl
  have X : Cx G p s m args meth c cX8_count 2 RX8 "count" (some .int) := X
  have hx := X.1
  have hb := X.2.1
  unfold f_X8_count at hf
  obtain ⟨H, hHe⟩ : ∃ z, z = s.heap := ⟨_, rfl⟩
  obtain ⟨locs, hLe⟩ : ∃ z, z = ([] : List Loc) := ⟨_, rfl⟩
  rw [← hHe, ← hLe] at hH
  rw [← hHe, ← hLe]
  refine lv_aload_n hx hb dX8_count_0 rfl (lv_at hl 0 rfl) ?_
  refine lv_iconst (v := 0) hx hb dX8_count_1 (by decide) ?_
  refine p_put X hH fp_RX8_19 rfl rfl hf dX8_count_2 (fun h H locs hH hf => ?_)
  refine lv_iload_n hx hb dX8_count_5 rfl (lv_at hl 1 rfl) ?_
  refine lv_iconst (v := 0) hx hb dX8_count_6 (by decide) ?_
  refine lv_bipush (v := 8) hx hb dX8_count_7 (by decide) ?_
  refine p_cSI (As := [.int x1, .int (0 : Int32), .int (8 : Int32)]) (rest := []) X hH hf (fun _ _ e_ => c_X8_isIn l G x1 (0 : Int32) (8 : Int32) h _ _ e_) ms_X8_isIn lk_RX8_34 (by decide) rfl hl.1 (Nat.le_of_ble_eq_true rfl) dX8_count_9 (c2 := 0) (s2 := 0) (by decide) (fun v1 h H locs hH hf => ?_)
  refine p_if_eq X hf dX8_count_12 (tgt := 23) (by decide) (fun _ hf => ?_) (fun _ hf => ?_)
  · refine lv_aload_n hx hb dX8_count_23 rfl (lv_at hl 0 rfl) ?_
    refine lv_iconst (v := 1) hx hb dX8_count_24 (by decide) ?_
    refine p_cVI (As := [.int (1 : Int32)]) (b := x0) (rest := []) (ci := 9) X hH rfl hf (fun _ _ e_ => c_X8_no l G x0 (1 : Int32) h _ _ e_) mv_X8_no lk_RX8_38 (by decide) rfl hl.1 (Nat.le_of_ble_eq_true rfl) dX8_count_25 (c2 := 0) (s2 := 0) (by decide) (fun v2 h H locs hH hf => ?_)
    refine W.widen (k := 1) (n := 9) (by decide) (by decide) ?_
    exact w_X8_count_b28 l X v2 h H locs ls hH (lv_sub hl [] rfl) hf
  · refine lv_aload_n hx hb dX8_count_15 rfl (lv_at hl 0 rfl) ?_
    refine lv_iload_n hx hb dX8_count_16 rfl (lv_at hl 1 rfl) ?_
    refine p_cVI (As := [.int x1]) (b := x0) (rest := []) (ci := 9) X hH rfl hf (fun _ _ e_ => c_X8_counted l G x0 x1 h _ _ e_) mv_X8_counted lk_RX8_132 (by decide) rfl hl.1 (Nat.le_of_ble_eq_true rfl) dX8_count_17 (c2 := 1) (s2 := 9) (by decide) (fun v3 h H locs hH hf => ?_)
    refine lv_goto (tgt := 28) hx hb dX8_count_20 (by decide) ?_
    exact w_X8_count_b28 l X v3 h H locs ls hH (lv_sub hl [] rfl) hf
set_option maxRecDepth 100000 in
set_option maxHeartbeats 4000000 in
theorem w_X8_partyTold_b50 {G : GE} {p : Program} (l : Launch) {e : Env} {s : State} {m : MethodId} {args : Array Value} {below : List Frame} {meth : Method} {c : Code} {rr : Int32} {hh : PH} (X : Cx G p s m args meth c cX8_partyTold 5 RX8 "partyTold" (some .int)) (k5 : Nat → Int32 → Int32 → Int32 → Int32 → PH → Option (Int32 × PH)) (ik5 : ∀ (x0 : Nat) (x1 : Int32) (x2 : Int32) (x3 : Int32) (x4 : Int32) (h : PH) (H : Heap) (locs : List Loc) (ls : Array Slot), Hx G s h H locs → lv_has ls 5 [(0, .ref x0), (1, .int x1), (2, .int x2), (3, .int x3), (4, .int x4)] → k5 x0 x1 x2 x3 x4 h = some (rr, hh) → W p l e rm_X8_partyTold s m args below meth c H locs 0 0 (Fq G (some (.int rr)) hh below args s rm_X8_partyTold.cells rm_X8_partyTold.slots) (F0 m 5 ls [])) (x0 : Nat) (x1 : Int32) (x2 : Int32) (x4 : Int32) (t0 : Int32) (t1 : Int32) (h : PH) (H : Heap) (locs : List Loc) (ls : Array Slot) (hH : Hx G s h H locs) (hl : lv_has ls 5 [(0, .ref x0), (1, .int x1), (2, .int x2), (4, .int x4)]) (hf : f_X8_partyTold_b50 G k5 x0 x1 x2 x4 t0 t1 h = some (rr, hh)) : W p l e rm_X8_partyTold s m args below meth c H locs 0 0 (Fq G (some (.int rr)) hh below args s rm_X8_partyTold.cells rm_X8_partyTold.slots) (F0 m 50 ls [.int t1, .int t0]) := by
  have hx := X.1
  have hb := X.2.1
  unfold f_X8_partyTold_b50 at hf
  refine lv_iadd hx hb dX8_partyTold_50 ?_
  refine lv_istore_n (lv' := [(3, .int (t0 + t1)), (0, .ref x0), (1, .int x1), (2, .int x2), (4, .int x4)]) hx hb dX8_partyTold_51 rfl hl (by decide) rfl (fun ls hl => ?_)
  refine lv_iinc (v := (x4 + (1 : Int32))) (lv' := [(4, .int (x4 + (1 : Int32))), (3, .int (t0 + t1)), (0, .ref x0), (1, .int x1), (2, .int x2)]) hx hb dX8_partyTold_52 hl (k := 4) rfl rfl (by decide) rfl (fun ls hl => ?_)
  refine lv_goto (tgt := 5) hx hb dX8_partyTold_55 (by decide) ?_
  exact ik5 x0 x1 x2 (t0 + t1) (x4 + (1 : Int32)) h H locs ls hH (lv_sub hl [2, 3, 4, 1, 0] rfl) hf
set_option maxRecDepth 100000 in
set_option maxHeartbeats 4000000 in
theorem w_X8_partyTold_b5 {G : GE} {p : Program} (l : Launch) {e : Env} {s : State} {m : MethodId} {args : Array Value} {below : List Frame} {meth : Method} {c : Code} {rr : Int32} {hh : PH} (X : Cx G p s m args meth c cX8_partyTold 5 RX8 "partyTold" (some .int)) : ∀ (n : Nat) (x0 : Nat) (x1 : Int32) (x2 : Int32) (x3 : Int32) (x4 : Int32) (h : PH) (H : Heap) (locs : List Loc) (ls : Array Slot) (hH : Hx G s h H locs) (hl : lv_has ls 5 [(0, .ref x0), (1, .int x1), (2, .int x2), (3, .int x3), (4, .int x4)]) (hf : f_X8_partyTold_b5 G n x0 x1 x2 x3 x4 h = some (rr, hh)), W p l e rm_X8_partyTold s m args below meth c H locs 0 0 (Fq G (some (.int rr)) hh below args s rm_X8_partyTold.cells rm_X8_partyTold.slots) (F0 m 5 ls []) := by
  have hx := X.1
  have hb := X.2.1
  intro n
  induction n with
  | zero =>
    intro x0 x1 x2 x3 x4 h H locs ls hH hl hf
    have hf : (none : Option (Int32 × PH)) = some (rr, hh) := hf
    cases hf
  | succ n ih =>
    intro x0 x1 x2 x3 x4 h H locs ls hH hl hf
    have hf : f_X8_partyTold_b5_body G (f_X8_partyTold_b5 G n) x0 x1 x2 x3 x4 h = some (rr, hh) := hf
    generalize f_X8_partyTold_b5 G n = k5 at hf ih
    have ik5 := ih
    unfold f_X8_partyTold_b5_body at hf
    refine lv_iload hx hb dX8_partyTold_5 (lv_at hl 4 rfl) ?_
    refine lv_aload_n hx hb dX8_partyTold_7 rfl (lv_at hl 0 rfl) ?_
    refine p_getR X hH fg_RX8_10 hf dX8_partyTold_8 (fun v1 _ hf => ?_)
    refine p_getI X hH fg_RX8_53 hf dX8_partyTold_11 (fun v2 _ hf => ?_)
    refine p_icmp_ge X hf dX8_partyTold_14 (tgt := 58) (by decide) (fun _ hf => ?_) (fun _ hf => ?_)
    · refine lv_iload_n hx hb dX8_partyTold_58 rfl (lv_at hl 3 rfl) ?_
      exact p_iret X hH hf (by decide) (by decide) dX8_partyTold_59
    · refine lv_iload_n hx hb dX8_partyTold_17 rfl (lv_at hl 3 rfl) ?_
      refine lv_aload_n hx hb dX8_partyTold_18 rfl (lv_at hl 0 rfl) ?_
      refine lv_iload hx hb dX8_partyTold_19 (lv_at hl 4 rfl) ?_
      refine p_cVI (As := [.int x4]) (b := x0) (rest := [.int x3]) (ci := 9) X hH rfl hf (fun _ _ e_ => c_X8_partyOf l G x0 x4 h _ _ e_) mv_X8_partyOf lk_RX8_80 (by decide) rfl hl.1 (Nat.le_of_ble_eq_true rfl) dX8_partyTold_21 (c2 := 0) (s2 := 0) (by decide) (fun v3 h H locs hH hf => ?_)
      refine lv_iload_n hx hb dX8_partyTold_24 rfl (lv_at hl 1 rfl) ?_
      refine p_icmp_ne X hf dX8_partyTold_25 (tgt := 49) (by decide) (fun _ hf => ?_) (fun _ hf => ?_)
      · refine lv_iconst (v := 0) hx hb dX8_partyTold_49 (by decide) ?_
        exact w_X8_partyTold_b50 l X k5 ik5 x0 x1 x2 x4 x3 (0 : Int32) h H locs ls hH (lv_sub hl [0, 1, 2, 4] rfl) hf
      · refine lv_iload_n hx hb dX8_partyTold_28 rfl (lv_at hl 2 rfl) ?_
        refine p_if_ne X hf dX8_partyTold_29 (tgt := 36) (by decide) (fun _ hf => ?_) (fun _ hf => ?_)
        · refine lv_aload_n hx hb dX8_partyTold_36 rfl (lv_at hl 0 rfl) ?_
          refine p_getR X hH fg_RX8_10 hf dX8_partyTold_37 (fun v4 _ hf => ?_)
          refine lv_iload hx hb dX8_partyTold_40 (lv_at hl 4 rfl) ?_
          refine lv_iconst (v := 4) hx hb dX8_partyTold_42 (by decide) ?_
          refine p_cVI (As := [.int x4, .int (4 : Int32)]) (b := v4) (rest := [.int x3]) (ci := 8) X hH rfl hf (fun _ _ e_ => c_X7_of l G v4 x4 (4 : Int32) h _ _ e_) mv_X7_of lk_RX8_56 (by decide) rfl hl.1 (Nat.le_of_ble_eq_true rfl) dX8_partyTold_43 (c2 := 0) (s2 := 0) (by decide) (fun v5 h H locs hH hf => ?_)
          refine lv_goto (tgt := 50) hx hb dX8_partyTold_46 (by decide) ?_
          exact w_X8_partyTold_b50 l X k5 ik5 x0 x1 x2 x4 x3 v5 h H locs ls hH (lv_sub hl [0, 1, 2, 4] rfl) hf
        · refine lv_iconst (v := 1) hx hb dX8_partyTold_32 (by decide) ?_
          refine lv_goto (tgt := 50) hx hb dX8_partyTold_33 (by decide) ?_
          exact w_X8_partyTold_b50 l X k5 ik5 x0 x1 x2 x4 x3 (1 : Int32) h H locs ls hH (lv_sub hl [0, 1, 2, 4] rfl) hf
set_option maxRecDepth 100000 in
set_option maxHeartbeats 4000000 in
theorem c_X8_partyTold (l : Launch) (G : GE) (x0 : Nat) (x1 : Int32) (x2 : Int32) (h : PH) (rr : Int32) (hh : PH) (hf : f_X8_partyTold G x0 x1 x2 h = some (rr, hh)) : Ct l yX8_partyTold cX8_partyTold 5 (some .int) rm_X8_partyTold G [.ref x0, .int x1, .int x2] h (some (.int rr)) hh := by
  refine Ct.of (plainFor_of_name (by decide)) (Nat.le_of_ble_eq_true rfl) ?_
  intro p e s m args below meth c ls X hH hl
  have hl : lv_has ls 5 [(0, .ref x0), (1, .int x1), (2, .int x2)] := hl
  have X : Cx G p s m args meth c cX8_partyTold 5 RX8 "partyTold" (some .int) := X
  have hx := X.1
  have hb := X.2.1
  unfold f_X8_partyTold at hf
  obtain ⟨H, hHe⟩ : ∃ z, z = s.heap := ⟨_, rfl⟩
  obtain ⟨locs, hLe⟩ : ∃ z, z = ([] : List Loc) := ⟨_, rfl⟩
  rw [← hHe, ← hLe] at hH
  rw [← hHe, ← hLe]
  refine lv_iconst (v := 0) hx hb dX8_partyTold_0 (by decide) ?_
  refine lv_istore_n (lv' := [(3, .int (0 : Int32)), (0, .ref x0), (1, .int x1), (2, .int x2)]) hx hb dX8_partyTold_1 rfl hl (by decide) rfl (fun ls hl => ?_)
  refine lv_iconst (v := 0) hx hb dX8_partyTold_2 (by decide) ?_
  refine lv_istore (lv' := [(4, .int (0 : Int32)), (3, .int (0 : Int32)), (0, .ref x0), (1, .int x1), (2, .int x2)]) hx hb dX8_partyTold_3 hl (by decide) rfl (fun ls hl => ?_)
  exact w_X8_partyTold_b5 l X LF x0 x1 x2 (0 : Int32) (0 : Int32) h H locs ls hH (lv_sub hl [2, 3, 4, 1, 0] rfl) hf
set_option maxRecDepth 100000 in
set_option maxHeartbeats 4000000 in
theorem w_X8_party_b37 {G : GE} {p : Program} (l : Launch) {e : Env} {s : State} {m : MethodId} {args : Array Value} {below : List Frame} {meth : Method} {c : Code} {rr : Int32} {hh : PH} (X : Cx G p s m args meth c cX8_party 3 RX8 "party" (some .int)) (t0 : Int32) (h : PH) (H : Heap) (locs : List Loc) (ls : Array Slot) (hH : Hx G s h H locs) (hl : lv_has ls 3 []) (hf : f_X8_party_b37 G t0 h = some (rr, hh)) : W p l e rm_X8_party s m args below meth c H locs 0 0 (Fq G (some (.int rr)) hh below args s rm_X8_party.cells rm_X8_party.slots) (F0 m 37 ls [.int t0]) := by
  have hx := X.1
  have hb := X.2.1
  unfold f_X8_party_b37 at hf
  exact p_iret X hH hf (by decide) (by decide) dX8_party_37
set_option maxRecDepth 100000 in
set_option maxHeartbeats 4000000 in
theorem w_X8_party_b32 {G : GE} {p : Program} (l : Launch) {e : Env} {s : State} {m : MethodId} {args : Array Value} {below : List Frame} {meth : Method} {c : Code} {rr : Int32} {hh : PH} (X : Cx G p s m args meth c cX8_party 3 RX8 "party" (some .int)) (x0 : Nat) (h : PH) (H : Heap) (locs : List Loc) (ls : Array Slot) (hH : Hx G s h H locs) (hl : lv_has ls 3 [(0, .ref x0)]) (hf : f_X8_party_b32 G x0 h = some (rr, hh)) : W p l e rm_X8_party s m args below meth c H locs 0 0 (Fq G (some (.int rr)) hh below args s rm_X8_party.cells rm_X8_party.slots) (F0 m 32 ls []) := by
  have hx := X.1
  have hb := X.2.1
  unfold f_X8_party_b32 at hf
  refine lv_aload_n hx hb dX8_party_32 rfl (lv_at hl 0 rfl) ?_
  refine lv_iconst (v := 1) hx hb dX8_party_33 (by decide) ?_
  refine p_cVI (As := [.int (1 : Int32)]) (b := x0) (rest := []) (ci := 9) X hH rfl hf (fun _ _ e_ => c_X8_no l G x0 (1 : Int32) h _ _ e_) mv_X8_no lk_RX8_38 (by decide) rfl hl.1 (Nat.le_of_ble_eq_true rfl) dX8_party_34 (c2 := 0) (s2 := 0) (by decide) (fun v4 h H locs hH hf => ?_)
  exact w_X8_party_b37 l X v4 h H locs ls hH (lv_sub hl [] rfl) hf
set_option maxRecDepth 100000 in
set_option maxHeartbeats 4000000 in
theorem c_X8_party (l : Launch) (G : GE) (x0 : Nat) (x1 : Int32) (x2 : Int32) (h : PH) (rr : Int32) (hh : PH) (hf : f_X8_party G x0 x1 x2 h = some (rr, hh)) : Ct l yX8_party cX8_party 3 (some .int) rm_X8_party G [.ref x0, .int x1, .int x2] h (some (.int rr)) hh := by
  refine Ct.of (plainFor_of_name (by decide)) (Nat.le_of_ble_eq_true rfl) ?_
  intro p e s m args below meth c ls X hH hl
  have hl : lv_has ls 3 [(0, .ref x0), (1, .int x1), (2, .int x2)] := hl
  have X : Cx G p s m args meth c cX8_party 3 RX8 "party" (some .int) := X
  have hx := X.1
  have hb := X.2.1
  unfold f_X8_party at hf
  obtain ⟨H, hHe⟩ : ∃ z, z = s.heap := ⟨_, rfl⟩
  obtain ⟨locs, hLe⟩ : ∃ z, z = ([] : List Loc) := ⟨_, rfl⟩
  rw [← hHe, ← hLe] at hH
  rw [← hHe, ← hLe]
  refine lv_aload_n hx hb dX8_party_0 rfl (lv_at hl 0 rfl) ?_
  refine lv_iconst (v := 0) hx hb dX8_party_1 (by decide) ?_
  refine p_put X hH fp_RX8_19 rfl rfl hf dX8_party_2 (fun h H locs hH hf => ?_)
  refine lv_iload_n hx hb dX8_party_5 rfl (lv_at hl 1 rfl) ?_
  refine lv_iconst (v := 0) hx hb dX8_party_6 (by decide) ?_
  refine lv_iconst (v := 3) hx hb dX8_party_7 (by decide) ?_
  refine p_cSI (As := [.int x1, .int (0 : Int32), .int (3 : Int32)]) (rest := []) X hH hf (fun _ _ e_ => c_X8_isIn l G x1 (0 : Int32) (3 : Int32) h _ _ e_) ms_X8_isIn lk_RX8_34 (by decide) rfl hl.1 (Nat.le_of_ble_eq_true rfl) dX8_party_8 (c2 := 0) (s2 := 0) (by decide) (fun v1 h H locs hH hf => ?_)
  refine p_if_eq X hf dX8_party_11 (tgt := 32) (by decide) (fun _ hf => ?_) (fun _ hf => ?_)
  · exact w_X8_party_b32 l X x0 h H locs ls hH (lv_sub hl [0] rfl) hf
  · refine lv_iload_n hx hb dX8_party_14 rfl (lv_at hl 2 rfl) ?_
    refine lv_iconst (v := 0) hx hb dX8_party_15 (by decide) ?_
    refine lv_iconst (v := 1) hx hb dX8_party_16 (by decide) ?_
    refine p_cSI (As := [.int x2, .int (0 : Int32), .int (1 : Int32)]) (rest := []) X hH hf (fun _ _ e_ => c_X8_isIn l G x2 (0 : Int32) (1 : Int32) h _ _ e_) ms_X8_isIn lk_RX8_34 (by decide) rfl hl.1 (Nat.le_of_ble_eq_true rfl) dX8_party_17 (c2 := 0) (s2 := 0) (by decide) (fun v2 h H locs hH hf => ?_)
    refine p_if_eq X hf dX8_party_20 (tgt := 32) (by decide) (fun _ hf => ?_) (fun _ hf => ?_)
    · exact w_X8_party_b32 l X x0 h H locs ls hH (lv_sub hl [0] rfl) hf
    · refine lv_aload_n hx hb dX8_party_23 rfl (lv_at hl 0 rfl) ?_
      refine lv_iload_n hx hb dX8_party_24 rfl (lv_at hl 1 rfl) ?_
      refine lv_iload_n hx hb dX8_party_25 rfl (lv_at hl 2 rfl) ?_
      refine p_cVI (As := [.int x1, .int x2]) (b := x0) (rest := []) (ci := 9) X hH rfl hf (fun _ _ e_ => c_X8_partyTold l G x0 x1 x2 h _ _ e_) mv_X8_partyTold lk_RX8_135 (by decide) rfl hl.1 (Nat.le_of_ble_eq_true rfl) dX8_party_26 (c2 := 0) (s2 := 0) (by decide) (fun v3 h H locs hH hf => ?_)
      refine lv_goto (tgt := 37) hx hb dX8_party_29 (by decide) ?_
      exact w_X8_party_b37 l X v3 h H locs ls hH (lv_sub hl [] rfl) hf
set_option maxRecDepth 100000 in
set_option maxHeartbeats 4000000 in
theorem w_X8_coalition_b132 {G : GE} {p : Program} (l : Launch) {e : Env} {s : State} {m : MethodId} {args : Array Value} {below : List Frame} {meth : Method} {c : Code} {rr : Int32} {hh : PH} (X : Cx G p s m args meth c cX8_coalition 7 RX8 "coalition" (some .int)) (x2 : Int32) (h : PH) (H : Heap) (locs : List Loc) (ls : Array Slot) (hH : Hx G s h H locs) (hl : lv_has ls 7 [(2, .int x2)]) (hf : f_X8_coalition_b132 G x2 h = some (rr, hh)) : W p l e rm_X8_coalition s m args below meth c H locs 1 9 (Fq G (some (.int rr)) hh below args s rm_X8_coalition.cells rm_X8_coalition.slots) (F0 m 132 ls []) := by
  have hx := X.1
  have hb := X.2.1
  unfold f_X8_coalition_b132 at hf
  refine lv_iload_n hx hb dX8_coalition_132 rfl (lv_at hl 0 rfl) ?_
  exact p_iret X hH hf (by decide) (by decide) dX8_coalition_133
set_option maxRecDepth 100000 in
set_option maxHeartbeats 4000000 in
theorem w_X8_coalition_b126 {G : GE} {p : Program} (l : Launch) {e : Env} {s : State} {m : MethodId} {args : Array Value} {below : List Frame} {meth : Method} {c : Code} {rr : Int32} {hh : PH} (X : Cx G p s m args meth c cX8_coalition 7 RX8 "coalition" (some .int)) (k18 : Nat → Int32 → Int32 → Int32 → Int32 → PH → Option (Int32 × PH)) (ik18 : ∀ (x0 : Nat) (x1 : Int32) (x2 : Int32) (x3 : Int32) (x4 : Int32) (h : PH) (H : Heap) (locs : List Loc) (ls : Array Slot), Hx G s h H locs → lv_has ls 7 [(0, .ref x0), (1, .int x1), (2, .int x2), (3, .int x3), (4, .int x4)] → k18 x0 x1 x2 x3 x4 h = some (rr, hh) → W p l e rm_X8_coalition s m args below meth c H locs 1 9 (Fq G (some (.int rr)) hh below args s rm_X8_coalition.cells rm_X8_coalition.slots) (F0 m 18 ls [])) (x0 : Nat) (x1 : Int32) (x2 : Int32) (x3 : Int32) (x4 : Int32) (h : PH) (H : Heap) (locs : List Loc) (ls : Array Slot) (hH : Hx G s h H locs) (hl : lv_has ls 7 [(0, .ref x0), (1, .int x1), (2, .int x2), (3, .int x3), (4, .int x4)]) (hf : f_X8_coalition_b126 G k18 x0 x1 x2 x3 x4 h = some (rr, hh)) : W p l e rm_X8_coalition s m args below meth c H locs 1 9 (Fq G (some (.int rr)) hh below args s rm_X8_coalition.cells rm_X8_coalition.slots) (F0 m 126 ls []) := by
  have hx := X.1
  have hb := X.2.1
  unfold f_X8_coalition_b126 at hf
  refine lv_iinc (v := (x4 + (1 : Int32))) (lv' := [(4, .int (x4 + (1 : Int32))), (0, .ref x0), (1, .int x1), (2, .int x2), (3, .int x3)]) hx hb dX8_coalition_126 hl (k := 4) rfl rfl (by decide) rfl (fun ls hl => ?_)
  refine lv_goto (tgt := 18) hx hb dX8_coalition_129 (by decide) ?_
  exact ik18 x0 x1 x2 x3 (x4 + (1 : Int32)) h H locs ls hH (lv_sub hl [1, 2, 3, 4, 0] rfl) hf
set_option maxRecDepth 100000 in
set_option maxHeartbeats 4000000 in
theorem w_X8_coalition_b120 {G : GE} {p : Program} (l : Launch) {e : Env} {s : State} {m : MethodId} {args : Array Value} {below : List Frame} {meth : Method} {c : Code} {rr : Int32} {hh : PH} (X : Cx G p s m args meth c cX8_coalition 7 RX8 "coalition" (some .int)) (k18 : Nat → Int32 → Int32 → Int32 → Int32 → PH → Option (Int32 × PH)) (ik18 : ∀ (x0 : Nat) (x1 : Int32) (x2 : Int32) (x3 : Int32) (x4 : Int32) (h : PH) (H : Heap) (locs : List Loc) (ls : Array Slot), Hx G s h H locs → lv_has ls 7 [(0, .ref x0), (1, .int x1), (2, .int x2), (3, .int x3), (4, .int x4)] → k18 x0 x1 x2 x3 x4 h = some (rr, hh) → W p l e rm_X8_coalition s m args below meth c H locs 1 9 (Fq G (some (.int rr)) hh below args s rm_X8_coalition.cells rm_X8_coalition.slots) (F0 m 18 ls [])) (x0 : Nat) (x1 : Int32) (x4 : Int32) (x5 : Int32) (h : PH) (H : Heap) (locs : List Loc) (ls : Array Slot) (hH : Hx G s h H locs) (hl : lv_has ls 7 [(0, .ref x0), (1, .int x1), (4, .int x4), (5, .int x5)]) (hf : f_X8_coalition_b120 G k18 x0 x1 x4 x5 h = some (rr, hh)) : W p l e rm_X8_coalition s m args below meth c H locs 1 9 (Fq G (some (.int rr)) hh below args s rm_X8_coalition.cells rm_X8_coalition.slots) (F0 m 120 ls []) := by
  have hx := X.1
  have hb := X.2.1
  unfold f_X8_coalition_b120 at hf
  refine lv_iload hx hb dX8_coalition_120 (lv_at hl 2 rfl) ?_
  refine lv_istore_n (lv' := [(2, .int x4), (0, .ref x0), (1, .int x1), (4, .int x4), (5, .int x5)]) hx hb dX8_coalition_122 rfl hl (by decide) rfl (fun ls hl => ?_)
  refine lv_iload hx hb dX8_coalition_123 (lv_at hl 4 rfl) ?_
  refine lv_istore_n (lv' := [(3, .int x5), (2, .int x4), (0, .ref x0), (1, .int x1), (4, .int x4), (5, .int x5)]) hx hb dX8_coalition_125 rfl hl (by decide) rfl (fun ls hl => ?_)
  exact w_X8_coalition_b126 l X k18 ik18 x0 x1 x4 x5 x4 h H locs ls hH (lv_sub hl [2, 3, 1, 0, 4] rfl) hf
set_option maxRecDepth 100000 in
set_option maxHeartbeats 4000000 in
theorem w_X8_coalition_b65 {G : GE} {p : Program} (l : Launch) {e : Env} {s : State} {m : MethodId} {args : Array Value} {below : List Frame} {meth : Method} {c : Code} {rr : Int32} {hh : PH} (X : Cx G p s m args meth c cX8_coalition 7 RX8 "coalition" (some .int)) (k18 : Nat → Int32 → Int32 → Int32 → Int32 → PH → Option (Int32 × PH)) (ik18 : ∀ (x0 : Nat) (x1 : Int32) (x2 : Int32) (x3 : Int32) (x4 : Int32) (h : PH) (H : Heap) (locs : List Loc) (ls : Array Slot), Hx G s h H locs → lv_has ls 7 [(0, .ref x0), (1, .int x1), (2, .int x2), (3, .int x3), (4, .int x4)] → k18 x0 x1 x2 x3 x4 h = some (rr, hh) → W p l e rm_X8_coalition s m args below meth c H locs 1 9 (Fq G (some (.int rr)) hh below args s rm_X8_coalition.cells rm_X8_coalition.slots) (F0 m 18 ls [])) (k35 : Nat → Int32 → Int32 → Int32 → Int32 → Int32 → Int32 → PH → Option (Int32 × PH)) (ik35 : ∀ (x0 : Nat) (x1 : Int32) (x2 : Int32) (x3 : Int32) (x4 : Int32) (x5 : Int32) (x6 : Int32) (h : PH) (H : Heap) (locs : List Loc) (ls : Array Slot), Hx G s h H locs → lv_has ls 7 [(0, .ref x0), (1, .int x1), (2, .int x2), (3, .int x3), (4, .int x4), (5, .int x5), (6, .int x6)] → k35 x0 x1 x2 x3 x4 x5 x6 h = some (rr, hh) → W p l e rm_X8_coalition s m args below meth c H locs 1 9 (Fq G (some (.int rr)) hh below args s rm_X8_coalition.cells rm_X8_coalition.slots) (F0 m 35 ls [])) (x0 : Nat) (x1 : Int32) (x2 : Int32) (x3 : Int32) (x4 : Int32) (x6 : Int32) (t0 : Int32) (t1 : Int32) (h : PH) (H : Heap) (locs : List Loc) (ls : Array Slot) (hH : Hx G s h H locs) (hl : lv_has ls 7 [(0, .ref x0), (1, .int x1), (2, .int x2), (3, .int x3), (4, .int x4), (6, .int x6)]) (hf : f_X8_coalition_b65 G k18 k35 x0 x1 x2 x3 x4 x6 t0 t1 h = some (rr, hh)) : W p l e rm_X8_coalition s m args below meth c H locs 1 9 (Fq G (some (.int rr)) hh below args s rm_X8_coalition.cells rm_X8_coalition.slots) (F0 m 65 ls [.int t1, .int t0]) := by
  have hx := X.1
  have hb := X.2.1
  unfold f_X8_coalition_b65 at hf
  refine lv_iadd hx hb dX8_coalition_65 ?_
  refine lv_istore (lv' := [(5, .int (t0 + t1)), (0, .ref x0), (1, .int x1), (2, .int x2), (3, .int x3), (4, .int x4), (6, .int x6)]) hx hb dX8_coalition_66 hl (by decide) rfl (fun ls hl => ?_)
  refine lv_iinc (v := (x6 + (1 : Int32))) (lv' := [(6, .int (x6 + (1 : Int32))), (5, .int (t0 + t1)), (0, .ref x0), (1, .int x1), (2, .int x2), (3, .int x3), (4, .int x4)]) hx hb dX8_coalition_68 hl (k := 6) rfl rfl (by decide) rfl (fun ls hl => ?_)
  refine lv_goto (tgt := 35) hx hb dX8_coalition_71 (by decide) ?_
  exact ik35 x0 x1 x2 x3 x4 (t0 + t1) (x6 + (1 : Int32)) h H locs ls hH (lv_sub hl [2, 3, 4, 5, 6, 1, 0] rfl) hf
set_option maxRecDepth 100000 in
set_option maxHeartbeats 4000000 in
theorem w_X8_coalition_b35 {G : GE} {p : Program} (l : Launch) {e : Env} {s : State} {m : MethodId} {args : Array Value} {below : List Frame} {meth : Method} {c : Code} {rr : Int32} {hh : PH} (X : Cx G p s m args meth c cX8_coalition 7 RX8 "coalition" (some .int)) (k18 : Nat → Int32 → Int32 → Int32 → Int32 → PH → Option (Int32 × PH)) (ik18 : ∀ (x0 : Nat) (x1 : Int32) (x2 : Int32) (x3 : Int32) (x4 : Int32) (h : PH) (H : Heap) (locs : List Loc) (ls : Array Slot), Hx G s h H locs → lv_has ls 7 [(0, .ref x0), (1, .int x1), (2, .int x2), (3, .int x3), (4, .int x4)] → k18 x0 x1 x2 x3 x4 h = some (rr, hh) → W p l e rm_X8_coalition s m args below meth c H locs 1 9 (Fq G (some (.int rr)) hh below args s rm_X8_coalition.cells rm_X8_coalition.slots) (F0 m 18 ls [])) : ∀ (n : Nat) (x0 : Nat) (x1 : Int32) (x2 : Int32) (x3 : Int32) (x4 : Int32) (x5 : Int32) (x6 : Int32) (h : PH) (H : Heap) (locs : List Loc) (ls : Array Slot) (hH : Hx G s h H locs) (hl : lv_has ls 7 [(0, .ref x0), (1, .int x1), (2, .int x2), (3, .int x3), (4, .int x4), (5, .int x5), (6, .int x6)]) (hf : f_X8_coalition_b35 G k18 n x0 x1 x2 x3 x4 x5 x6 h = some (rr, hh)), W p l e rm_X8_coalition s m args below meth c H locs 1 9 (Fq G (some (.int rr)) hh below args s rm_X8_coalition.cells rm_X8_coalition.slots) (F0 m 35 ls []) := by
  have hx := X.1
  have hb := X.2.1
  intro n
  induction n with
  | zero =>
    intro x0 x1 x2 x3 x4 x5 x6 h H locs ls hH hl hf
    have hf : (none : Option (Int32 × PH)) = some (rr, hh) := hf
    cases hf
  | succ n ih =>
    intro x0 x1 x2 x3 x4 x5 x6 h H locs ls hH hl hf
    have hf : f_X8_coalition_b35_body G k18 (f_X8_coalition_b35 G k18 n) x0 x1 x2 x3 x4 x5 x6 h = some (rr, hh) := hf
    generalize f_X8_coalition_b35 G k18 n = k35 at hf ih
    have ik35 := ih
    unfold f_X8_coalition_b35_body at hf
    refine lv_iload hx hb dX8_coalition_35 (lv_at hl 6 rfl) ?_
    refine lv_iconst (v := 4) hx hb dX8_coalition_37 (by decide) ?_
    refine p_icmp_ge X hf dX8_coalition_38 (tgt := 74) (by decide) (fun _ hf => ?_) (fun _ hf => ?_)
    · refine lv_iconst (v := 2) hx hb dX8_coalition_74 (by decide) ?_
      refine lv_iload hx hb dX8_coalition_75 (lv_at hl 5 rfl) ?_
      refine lv_imul hx hb dX8_coalition_77 ?_
      refine lv_iload_n hx hb dX8_coalition_78 rfl (lv_at hl 1 rfl) ?_
      refine p_icmp_gt X hf dX8_coalition_79 (tgt := 85) (by decide) (fun _ hf => ?_) (fun _ hf => ?_)
      · refine lv_iload_n hx hb dX8_coalition_85 rfl (lv_at hl 2 rfl) ?_
        refine p_cSI (As := [.int x2]) (rest := []) X hH hf (fun _ _ e_ => c_J6_bitCount_0f7a4 l G x2 h _ _ e_) ms_J6_bitCount_0f7a4 lk_RX8_138 (by decide) rfl hl.1 (Nat.le_of_ble_eq_true rfl) dX8_coalition_86 (c2 := 1) (s2 := 9) (by decide) (fun v2 h H locs hH hf => ?_)
        refine lv_iload hx hb dX8_coalition_89 (lv_at hl 4 rfl) ?_
        refine p_cSI (As := [.int x4]) (rest := [.int v2]) X hH hf (fun _ _ e_ => c_J6_bitCount_0f7a4 l G x4 h _ _ e_) ms_J6_bitCount_0f7a4 lk_RX8_138 (by decide) rfl hl.1 (Nat.le_of_ble_eq_true rfl) dX8_coalition_91 (c2 := 1) (s2 := 9) (by decide) (fun v3 h H locs hH hf => ?_)
        refine lv_isub hx hb dX8_coalition_94 ?_
        refine lv_istore (lv' := [(6, .int (v2 - v3)), (0, .ref x0), (1, .int x1), (2, .int x2), (3, .int x3), (4, .int x4), (5, .int x5)]) hx hb dX8_coalition_95 hl (by decide) rfl (fun ls hl => ?_)
        refine lv_iload_n hx hb dX8_coalition_97 rfl (lv_at hl 3 rfl) ?_
        refine p_if_eq X hf dX8_coalition_98 (tgt := 120) (by decide) (fun _ hf => ?_) (fun _ hf => ?_)
        · exact w_X8_coalition_b120 l X k18 ik18 x0 x1 x4 x5 h H locs ls hH (lv_sub hl [1, 2, 5, 6] rfl) hf
        · refine lv_iload hx hb dX8_coalition_101 (lv_at hl 0 rfl) ?_
          refine p_if_lt X hf dX8_coalition_103 (tgt := 126) (by decide) (fun _ hf => ?_) (fun _ hf => ?_)
          · exact w_X8_coalition_b126 l X k18 ik18 x0 x1 x2 x3 x4 h H locs ls hH (lv_sub hl [1, 2, 3, 4, 5] rfl) hf
          · refine lv_iload hx hb dX8_coalition_106 (lv_at hl 0 rfl) ?_
            refine p_if_ne X hf dX8_coalition_108 (tgt := 120) (by decide) (fun _ hf => ?_) (fun _ hf => ?_)
            · exact w_X8_coalition_b120 l X k18 ik18 x0 x1 x4 x5 h H locs ls hH (lv_sub hl [1, 2, 5, 6] rfl) hf
            · refine lv_iload hx hb dX8_coalition_111 (lv_at hl 6 rfl) ?_
              refine lv_iload_n hx hb dX8_coalition_113 rfl (lv_at hl 4 rfl) ?_
              refine p_icmp_gt X hf dX8_coalition_114 (tgt := 120) (by decide) (fun _ hf => ?_) (fun _ hf => ?_)
              · exact w_X8_coalition_b120 l X k18 ik18 x0 x1 x4 x5 h H locs ls hH (lv_sub hl [1, 2, 5, 6] rfl) hf
              · refine lv_goto (tgt := 126) hx hb dX8_coalition_117 (by decide) ?_
                exact w_X8_coalition_b126 l X k18 ik18 x0 x1 x2 x3 x4 h H locs ls hH (lv_sub hl [1, 2, 3, 4, 5] rfl) hf
      · refine lv_goto (tgt := 126) hx hb dX8_coalition_82 (by decide) ?_
        exact w_X8_coalition_b126 l X k18 ik18 x0 x1 x2 x3 x4 h H locs ls hH (lv_sub hl [0, 1, 2, 3, 4] rfl) hf
    · refine lv_iload hx hb dX8_coalition_41 (lv_at hl 5 rfl) ?_
      refine lv_iload hx hb dX8_coalition_43 (lv_at hl 4 rfl) ?_
      refine lv_iload hx hb dX8_coalition_45 (lv_at hl 6 rfl) ?_
      refine lv_ishr hx hb dX8_coalition_47 ?_
      refine lv_iconst (v := 1) hx hb dX8_coalition_48 (by decide) ?_
      refine lv_iand hx hb dX8_coalition_49 ?_
      refine lv_iconst (v := 1) hx hb dX8_coalition_50 (by decide) ?_
      refine p_icmp_ne X hf dX8_coalition_51 (tgt := 64) (by decide) (fun _ hf => ?_) (fun _ hf => ?_)
      · refine lv_iconst (v := 0) hx hb dX8_coalition_64 (by decide) ?_
        exact w_X8_coalition_b65 l X k18 ik18 k35 ik35 x0 x1 x2 x3 x4 x6 x5 (0 : Int32) h H locs ls hH (lv_sub hl [0, 1, 2, 3, 4, 6] rfl) hf
      · refine lv_aload_n hx hb dX8_coalition_54 rfl (lv_at hl 0 rfl) ?_
        refine lv_iload hx hb dX8_coalition_55 (lv_at hl 6 rfl) ?_
        refine lv_iconst (v := 1) hx hb dX8_coalition_57 (by decide) ?_
        refine p_cVI (As := [.int x6, .int (1 : Int32)]) (b := x0) (rest := [.int x5]) (ci := 9) X hH rfl hf (fun _ _ e_ => c_X8_partyTold l G x0 x6 (1 : Int32) h _ _ e_) mv_X8_partyTold lk_RX8_135 (by decide) rfl hl.1 (Nat.le_of_ble_eq_true rfl) dX8_coalition_58 (c2 := 1) (s2 := 9) (by decide) (fun v4 h H locs hH hf => ?_)
        refine lv_goto (tgt := 65) hx hb dX8_coalition_61 (by decide) ?_
        exact w_X8_coalition_b65 l X k18 ik18 k35 ik35 x0 x1 x2 x3 x4 x6 x5 v4 h H locs ls hH (lv_sub hl [0, 1, 2, 3, 4, 6] rfl) hf
set_option maxRecDepth 100000 in
set_option maxHeartbeats 4000000 in
theorem w_X8_coalition_b18 {G : GE} {p : Program} (l : Launch) {e : Env} {s : State} {m : MethodId} {args : Array Value} {below : List Frame} {meth : Method} {c : Code} {rr : Int32} {hh : PH} (X : Cx G p s m args meth c cX8_coalition 7 RX8 "coalition" (some .int)) : ∀ (n : Nat) (x0 : Nat) (x1 : Int32) (x2 : Int32) (x3 : Int32) (x4 : Int32) (h : PH) (H : Heap) (locs : List Loc) (ls : Array Slot) (hH : Hx G s h H locs) (hl : lv_has ls 7 [(0, .ref x0), (1, .int x1), (2, .int x2), (3, .int x3), (4, .int x4)]) (hf : f_X8_coalition_b18 G n x0 x1 x2 x3 x4 h = some (rr, hh)), W p l e rm_X8_coalition s m args below meth c H locs 1 9 (Fq G (some (.int rr)) hh below args s rm_X8_coalition.cells rm_X8_coalition.slots) (F0 m 18 ls []) := by
  have hx := X.1
  have hb := X.2.1
  intro n
  induction n with
  | zero =>
    intro x0 x1 x2 x3 x4 h H locs ls hH hl hf
    have hf : (none : Option (Int32 × PH)) = some (rr, hh) := hf
    cases hf
  | succ n ih =>
    intro x0 x1 x2 x3 x4 h H locs ls hH hl hf
    have hf : f_X8_coalition_b18_body G (f_X8_coalition_b18 G n) x0 x1 x2 x3 x4 h = some (rr, hh) := hf
    generalize f_X8_coalition_b18 G n = k18 at hf ih
    have ik18 := ih
    unfold f_X8_coalition_b18_body at hf
    refine lv_iload hx hb dX8_coalition_18 (lv_at hl 4 rfl) ?_
    refine lv_bipush (v := 16) hx hb dX8_coalition_20 (by decide) ?_
    refine p_icmp_ge X hf dX8_coalition_22 (tgt := 132) (by decide) (fun _ hf => ?_) (fun _ hf => ?_)
    · exact w_X8_coalition_b132 l X x2 h H locs ls hH (lv_sub hl [2] rfl) hf
    · refine lv_iload_n hx hb dX8_coalition_25 rfl (lv_at hl 1 rfl) ?_
      refine p_if_le X hf dX8_coalition_26 (tgt := 132) (by decide) (fun _ hf => ?_) (fun _ hf => ?_)
      · exact w_X8_coalition_b132 l X x2 h H locs ls hH (lv_sub hl [2] rfl) hf
      · refine lv_iconst (v := 0) hx hb dX8_coalition_29 (by decide) ?_
        refine lv_istore (lv' := [(5, .int (0 : Int32)), (0, .ref x0), (1, .int x1), (2, .int x2), (3, .int x3), (4, .int x4)]) hx hb dX8_coalition_30 hl (by decide) rfl (fun ls hl => ?_)
        refine lv_iconst (v := 0) hx hb dX8_coalition_32 (by decide) ?_
        refine lv_istore (lv' := [(6, .int (0 : Int32)), (5, .int (0 : Int32)), (0, .ref x0), (1, .int x1), (2, .int x2), (3, .int x3), (4, .int x4)]) hx hb dX8_coalition_33 hl (by decide) rfl (fun ls hl => ?_)
        exact w_X8_coalition_b35 l X k18 ik18 LF x0 x1 x2 x3 x4 (0 : Int32) (0 : Int32) h H locs ls hH (lv_sub hl [2, 3, 4, 5, 6, 1, 0] rfl) hf
set_option maxRecDepth 100000 in
set_option maxHeartbeats 4000000 in
theorem c_X8_coalition (l : Launch) (G : GE) (x0 : Nat) (h : PH) (rr : Int32) (hh : PH) (hf : f_X8_coalition G x0 h = some (rr, hh)) : Ct l yX8_coalition cX8_coalition 7 (some .int) rm_X8_coalition G [.ref x0] h (some (.int rr)) hh := by
  refine Ct.of (plainFor_of_name (by decide)) (Nat.le_of_ble_eq_true rfl) ?_
  intro p e s m args below meth c ls X hH hl
  have hl : lv_has ls 7 [(0, .ref x0)] := hl
  have X : Cx G p s m args meth c cX8_coalition 7 RX8 "coalition" (some .int) := X
  have hx := X.1
  have hb := X.2.1
  unfold f_X8_coalition at hf
  obtain ⟨H, hHe⟩ : ∃ z, z = s.heap := ⟨_, rfl⟩
  obtain ⟨locs, hLe⟩ : ∃ z, z = ([] : List Loc) := ⟨_, rfl⟩
  rw [← hHe, ← hLe] at hH
  rw [← hHe, ← hLe]
  refine lv_aload_n hx hb dX8_coalition_0 rfl (lv_at hl 0 rfl) ?_
  refine lv_iconst (v := 0) hx hb dX8_coalition_1 (by decide) ?_
  refine p_put X hH fp_RX8_19 rfl rfl hf dX8_coalition_2 (fun h H locs hH hf => ?_)
  refine lv_aload_n hx hb dX8_coalition_5 rfl (lv_at hl 0 rfl) ?_
  refine lv_iconst (v := 5) hx hb dX8_coalition_6 (by decide) ?_
  refine p_cVI (As := [.int (5 : Int32)]) (b := x0) (rest := []) (ci := 9) X hH rfl hf (fun _ _ e_ => c_X8_counted l G x0 (5 : Int32) h _ _ e_) mv_X8_counted lk_RX8_132 (by decide) rfl hl.1 (Nat.le_of_ble_eq_true rfl) dX8_coalition_7 (c2 := 1) (s2 := 9) (by decide) (fun v1 h H locs hH hf => ?_)
  refine lv_istore_n (lv' := [(1, .int v1), (0, .ref x0)]) hx hb dX8_coalition_10 rfl hl (by decide) rfl (fun ls hl => ?_)
  refine lv_iconst (v := 0) hx hb dX8_coalition_11 (by decide) ?_
  refine lv_istore_n (lv' := [(2, .int (0 : Int32)), (1, .int v1), (0, .ref x0)]) hx hb dX8_coalition_12 rfl hl (by decide) rfl (fun ls hl => ?_)
  refine lv_iconst (v := 0) hx hb dX8_coalition_13 (by decide) ?_
  refine lv_istore_n (lv' := [(3, .int (0 : Int32)), (2, .int (0 : Int32)), (1, .int v1), (0, .ref x0)]) hx hb dX8_coalition_14 rfl hl (by decide) rfl (fun ls hl => ?_)
  refine lv_iconst (v := 1) hx hb dX8_coalition_15 (by decide) ?_
  refine lv_istore (lv' := [(4, .int (1 : Int32)), (3, .int (0 : Int32)), (2, .int (0 : Int32)), (1, .int v1), (0, .ref x0)]) hx hb dX8_coalition_16 hl (by decide) rfl (fun ls hl => ?_)
  exact w_X8_coalition_b18 l X LF x0 v1 (0 : Int32) (0 : Int32) (1 : Int32) h H locs ls hH (lv_sub hl [4, 3, 2, 1, 0] rfl) hf
set_option maxRecDepth 100000 in
set_option maxHeartbeats 4000000 in
theorem w_X8_foresee_b69 {G : GE} {p : Program} (l : Launch) {e : Env} {s : State} {m : MethodId} {args : Array Value} {below : List Frame} {meth : Method} {c : Code} {rr : Int32} {hh : PH} (X : Cx G p s m args meth c cX8_foresee 4 RX8 "foresee" (some .int)) : ∀ (n : Nat) (x0 : Nat) (x1 : Int32) (x2 : Int32) (x3 : Int32) (h : PH) (H : Heap) (locs : List Loc) (ls : Array Slot) (hH : Hx G s h H locs) (hl : lv_has ls 4 [(0, .ref x0), (1, .int x1), (2, .int x2), (3, .int x3)]) (hf : f_X8_foresee_b69 G n x0 x1 x2 x3 h = some (rr, hh)), W p l e rm_X8_foresee s m args below meth c H locs 0 0 (Fq G (some (.int rr)) hh below args s rm_X8_foresee.cells rm_X8_foresee.slots) (F0 m 69 ls []) := by
  have hx := X.1
  have hb := X.2.1
  intro n
  induction n with
  | zero =>
    intro x0 x1 x2 x3 h H locs ls hH hl hf
    have hf : (none : Option (Int32 × PH)) = some (rr, hh) := hf
    cases hf
  | succ n ih =>
    intro x0 x1 x2 x3 h H locs ls hH hl hf
    have hf : f_X8_foresee_b69_body G (f_X8_foresee_b69 G n) x0 x1 x2 x3 h = some (rr, hh) := hf
    generalize f_X8_foresee_b69 G n = k69 at hf ih
    have ik69 := ih
    unfold f_X8_foresee_b69_body at hf
    refine lv_iload_n hx hb dX8_foresee_69 rfl (lv_at hl 3 rfl) ?_
    refine lv_iload_n hx hb dX8_foresee_70 rfl (lv_at hl 2 rfl) ?_
    refine p_icmp_ge X hf dX8_foresee_71 (tgt := 88) (by decide) (fun _ hf => ?_) (fun _ hf => ?_)
    · refine lv_aload_n hx hb dX8_foresee_88 rfl (lv_at hl 0 rfl) ?_
      refine p_getR X hH fg_RX8_16 hf dX8_foresee_89 (fun v10 _ hf => ?_)
      refine lv_iload_n hx hb dX8_foresee_92 rfl (lv_at hl 1 rfl) ?_
      refine lv_bipush (v := 6) hx hb dX8_foresee_93 (by decide) ?_
      refine p_cVI (As := [.int x1, .int (6 : Int32)]) (b := v10) (rest := []) (ci := 8) X hH rfl hf (fun _ _ e_ => c_X7_of l G v10 x1 (6 : Int32) h _ _ e_) mv_X7_of lk_RX8_56 (by decide) rfl hl.1 (Nat.le_of_ble_eq_true rfl) dX8_foresee_95 (c2 := 0) (s2 := 0) (by decide) (fun v11 h H locs hH hf => ?_)
      exact p_iret X hH hf (by decide) (by decide) dX8_foresee_98
    · refine lv_aload_n hx hb dX8_foresee_74 rfl (lv_at hl 0 rfl) ?_
      refine p_getR X hH fg_RX8_16 hf dX8_foresee_75 (fun v12 _ hf => ?_)
      refine p_cVI (As := []) (b := v12) (rest := []) (ci := 8) X hH rfl hf (fun _ _ e_ => c_X7_pass l G v12 h _ _ e_) mv_X7_pass lk_RX8_125 (by decide) rfl hl.1 (Nat.le_of_ble_eq_true rfl) dX8_foresee_78 (c2 := 0) (s2 := 0) (by decide) (fun v13 h H locs hH hf => ?_)
      refine lv_pop hx hb dX8_foresee_81 rfl ?_
      refine lv_iinc (v := (x3 + (1 : Int32))) (lv' := [(3, .int (x3 + (1 : Int32))), (0, .ref x0), (1, .int x1), (2, .int x2)]) hx hb dX8_foresee_82 hl (k := 3) rfl rfl (by decide) rfl (fun ls hl => ?_)
      refine lv_goto (tgt := 69) hx hb dX8_foresee_85 (by decide) ?_
      exact ik69 x0 x1 x2 (x3 + (1 : Int32)) h H locs ls hH (lv_sub hl [1, 2, 3, 0] rfl) hf
set_option maxRecDepth 100000 in
set_option maxHeartbeats 4000000 in
theorem c_X8_foresee (l : Launch) (G : GE) (x0 : Nat) (x1 : Int32) (x2 : Int32) (h : PH) (rr : Int32) (hh : PH) (hf : f_X8_foresee G x0 x1 x2 h = some (rr, hh)) : Ct l yX8_foresee cX8_foresee 4 (some .int) rm_X8_foresee G [.ref x0, .int x1, .int x2] h (some (.int rr)) hh := by
  refine Ct.of (plainFor_of_name (by decide)) (Nat.le_of_ble_eq_true rfl) ?_
  intro p e s m args below meth c ls X hH hl
  have hl : lv_has ls 4 [(0, .ref x0), (1, .int x1), (2, .int x2)] := hl
  have X : Cx G p s m args meth c cX8_foresee 4 RX8 "foresee" (some .int) := X
  have hx := X.1
  have hb := X.2.1
  unfold f_X8_foresee at hf
  obtain ⟨H, hHe⟩ : ∃ z, z = s.heap := ⟨_, rfl⟩
  obtain ⟨locs, hLe⟩ : ∃ z, z = ([] : List Loc) := ⟨_, rfl⟩
  rw [← hHe, ← hLe] at hH
  rw [← hHe, ← hLe]
  refine lv_aload_n hx hb dX8_foresee_0 rfl (lv_at hl 0 rfl) ?_
  refine lv_iconst (v := 0) hx hb dX8_foresee_1 (by decide) ?_
  refine p_put X hH fp_RX8_19 rfl rfl hf dX8_foresee_2 (fun h H locs hH hf => ?_)
  refine lv_aload_n hx hb dX8_foresee_5 rfl (lv_at hl 0 rfl) ?_
  refine lv_iload_n hx hb dX8_foresee_6 rfl (lv_at hl 1 rfl) ?_
  refine p_cVI (As := [.int x1]) (b := x0) (rest := []) (ci := 9) X hH rfl hf (fun _ _ e_ => c_X8_isVane l G x0 x1 h _ _ e_) mv_X8_isVane lk_RX8_68 (by decide) rfl hl.1 (Nat.le_of_ble_eq_true rfl) dX8_foresee_7 (c2 := 0) (s2 := 0) (by decide) (fun v1 h H locs hH hf => ?_)
  refine p_if_ne X hf dX8_foresee_10 (tgt := 19) (by decide) (fun _ hf => ?_) (fun _ hf => ?_)
  · refine lv_iload_n hx hb dX8_foresee_19 rfl (lv_at hl 2 rfl) ?_
    refine lv_iconst (v := 0) hx hb dX8_foresee_20 (by decide) ?_
    refine lv_bipush (v := 100) hx hb dX8_foresee_21 (by decide) ?_
    refine p_cSI (As := [.int x2, .int (0 : Int32), .int (100 : Int32)]) (rest := []) X hH hf (fun _ _ e_ => c_X8_isIn l G x2 (0 : Int32) (100 : Int32) h _ _ e_) ms_X8_isIn lk_RX8_34 (by decide) rfl hl.1 (Nat.le_of_ble_eq_true rfl) dX8_foresee_23 (c2 := 0) (s2 := 0) (by decide) (fun v2 h H locs hH hf => ?_)
    refine p_if_ne X hf dX8_foresee_26 (tgt := 35) (by decide) (fun _ hf => ?_) (fun _ hf => ?_)
    · refine lv_aload_n hx hb dX8_foresee_35 rfl (lv_at hl 0 rfl) ?_
      refine p_getR X hH fg_RX8_10 hf dX8_foresee_36 (fun v3 _ hf => ?_)
      refine p_getI X hH fg_RX8_104 hf dX8_foresee_39 (fun v4 _ hf => ?_)
      refine lv_iload_n hx hb dX8_foresee_42 rfl (lv_at hl 2 rfl) ?_
      refine lv_iadd hx hb dX8_foresee_43 ?_
      refine lv_sipush (v := 2000) hx hb dX8_foresee_44 (by decide) ?_
      refine p_icmp_le X hf dX8_foresee_47 (tgt := 56) (by decide) (fun _ hf => ?_) (fun _ hf => ?_)
      · refine lv_aload_n hx hb dX8_foresee_56 rfl (lv_at hl 0 rfl) ?_
        refine p_getR X hH fg_RX8_16 hf dX8_foresee_57 (fun v5 _ hf => ?_)
        refine lv_aload_n hx hb dX8_foresee_60 rfl (lv_at hl 0 rfl) ?_
        refine p_getR X hH fg_RX8_10 hf dX8_foresee_61 (fun v6 _ hf => ?_)
        refine p_cVV (As := [.ref v6]) (b := v5) (rest := []) (ci := 8) X hH rfl hf (fun _ _ e_ => c_X7_become l G v5 v6 h _ _ e_) mv_X7_become lk_RX8_143 (by decide) rfl hl.1 (Nat.le_of_ble_eq_true rfl) dX8_foresee_64 (c2 := 0) (s2 := 0) (by decide) (fun _ h H locs hH hf => ?_)
        refine lv_iconst (v := 0) hx hb dX8_foresee_67 (by decide) ?_
        refine lv_istore_n (lv' := [(3, .int (0 : Int32)), (0, .ref x0), (1, .int x1), (2, .int x2)]) hx hb dX8_foresee_68 rfl hl (by decide) rfl (fun ls hl => ?_)
        exact w_X8_foresee_b69 l X LF x0 x1 x2 (0 : Int32) h H locs ls hH (lv_sub hl [1, 2, 3, 0] rfl) hf
      · refine lv_aload_n hx hb dX8_foresee_50 rfl (lv_at hl 0 rfl) ?_
        refine lv_iconst (v := 3) hx hb dX8_foresee_51 (by decide) ?_
        refine p_cVI (As := [.int (3 : Int32)]) (b := x0) (rest := []) (ci := 9) X hH rfl hf (fun _ _ e_ => c_X8_no l G x0 (3 : Int32) h _ _ e_) mv_X8_no lk_RX8_38 (by decide) rfl hl.1 (Nat.le_of_ble_eq_true rfl) dX8_foresee_52 (c2 := 0) (s2 := 0) (by decide) (fun v7 h H locs hH hf => ?_)
        exact p_iret X hH hf (by decide) (by decide) dX8_foresee_55
    · refine lv_aload_n hx hb dX8_foresee_29 rfl (lv_at hl 0 rfl) ?_
      refine lv_iconst (v := 2) hx hb dX8_foresee_30 (by decide) ?_
      refine p_cVI (As := [.int (2 : Int32)]) (b := x0) (rest := []) (ci := 9) X hH rfl hf (fun _ _ e_ => c_X8_no l G x0 (2 : Int32) h _ _ e_) mv_X8_no lk_RX8_38 (by decide) rfl hl.1 (Nat.le_of_ble_eq_true rfl) dX8_foresee_31 (c2 := 0) (s2 := 0) (by decide) (fun v8 h H locs hH hf => ?_)
      exact p_iret X hH hf (by decide) (by decide) dX8_foresee_34
  · refine lv_aload_n hx hb dX8_foresee_13 rfl (lv_at hl 0 rfl) ?_
    refine lv_iconst (v := 1) hx hb dX8_foresee_14 (by decide) ?_
    refine p_cVI (As := [.int (1 : Int32)]) (b := x0) (rest := []) (ci := 9) X hH rfl hf (fun _ _ e_ => c_X8_no l G x0 (1 : Int32) h _ _ e_) mv_X8_no lk_RX8_38 (by decide) rfl hl.1 (Nat.le_of_ble_eq_true rfl) dX8_foresee_15 (c2 := 0) (s2 := 0) (by decide) (fun v9 h H locs hH hf => ?_)
    exact p_iret X hH hf (by decide) (by decide) dX8_foresee_18
set_option maxRecDepth 100000 in
set_option maxHeartbeats 4000000 in
theorem w_X8_first_b27 {G : GE} {p : Program} (l : Launch) {e : Env} {s : State} {m : MethodId} {args : Array Value} {below : List Frame} {meth : Method} {c : Code} {rr : Int32} {hh : PH} (X : Cx G p s m args meth c cX8_first 5 RX8 "first" (some .int)) : ∀ (n : Nat) (x0 : Nat) (x1 : Int32) (x2 : Int32) (x4 : Int32) (h : PH) (H : Heap) (locs : List Loc) (ls : Array Slot) (hH : Hx G s h H locs) (hl : lv_has ls 5 [(0, .ref x0), (1, .int x1), (2, .int x2), (4, .int x4)]) (hf : f_X8_first_b27 G n x0 x1 x2 x4 h = some (rr, hh)), W p l e rm_X8_first s m args below meth c H locs 0 0 (Fq G (some (.int rr)) hh below args s rm_X8_first.cells rm_X8_first.slots) (F0 m 27 ls []) := by
  have hx := X.1
  have hb := X.2.1
  intro n
  induction n with
  | zero =>
    intro x0 x1 x2 x4 h H locs ls hH hl hf
    have hf : (none : Option (Int32 × PH)) = some (rr, hh) := hf
    cases hf
  | succ n ih =>
    intro x0 x1 x2 x4 h H locs ls hH hl hf
    have hf : f_X8_first_b27_body G (f_X8_first_b27 G n) x0 x1 x2 x4 h = some (rr, hh) := hf
    generalize f_X8_first_b27 G n = k27 at hf ih
    have ik27 := ih
    unfold f_X8_first_b27_body at hf
    refine lv_iload hx hb dX8_first_27 (lv_at hl 3 rfl) ?_
    refine lv_iload_n hx hb dX8_first_29 rfl (lv_at hl 2 rfl) ?_
    refine p_icmp_ge X hf dX8_first_30 (tgt := 73) (by decide) (fun _ hf => ?_) (fun _ hf => ?_)
    · refine lv_iconst (v := -1) hx hb dX8_first_73 (by decide) ?_
      exact p_iret X hH hf (by decide) (by decide) dX8_first_74
    · refine lv_aload_n hx hb dX8_first_33 rfl (lv_at hl 0 rfl) ?_
      refine p_getR X hH fg_RX8_16 hf dX8_first_34 (fun v4 _ hf => ?_)
      refine p_cVV (As := []) (b := v4) (rest := []) (ci := 8) X hH rfl hf (fun _ _ e_ => c_X7_turn l G v4 h _ _ e_) mv_X7_turn lk_RX8_147 (by decide) rfl hl.1 (Nat.le_of_ble_eq_true rfl) dX8_first_37 (c2 := 0) (s2 := 0) (by decide) (fun _ h H locs hH hf => ?_)
      refine lv_aload_n hx hb dX8_first_40 rfl (lv_at hl 0 rfl) ?_
      refine p_getR X hH fg_RX8_16 hf dX8_first_41 (fun v5 _ hf => ?_)
      refine lv_iload_n hx hb dX8_first_44 rfl (lv_at hl 1 rfl) ?_
      refine p_cVI (As := [.int x1]) (b := v5) (rest := []) (ci := 8) X hH rfl hf (fun _ _ e_ => c_X7_would l G v5 x1 h _ _ e_) mv_X7_would lk_RX8_116 (by decide) rfl hl.1 (Nat.le_of_ble_eq_true rfl) dX8_first_45 (c2 := 0) (s2 := 0) (by decide) (fun v6 h H locs hH hf => ?_)
      refine p_if_eq X hf dX8_first_48 (tgt := 59) (by decide) (fun _ hf => ?_) (fun _ hf => ?_)
      · refine lv_aload_n hx hb dX8_first_59 rfl (lv_at hl 0 rfl) ?_
        refine p_getR X hH fg_RX8_16 hf dX8_first_60 (fun v7 _ hf => ?_)
        refine p_cVI (As := []) (b := v7) (rest := []) (ci := 8) X hH rfl hf (fun _ _ e_ => c_X7_end l G v7 h _ _ e_) mv_X7_end lk_RX8_150 (by decide) rfl hl.1 (Nat.le_of_ble_eq_true rfl) dX8_first_63 (c2 := 0) (s2 := 0) (by decide) (fun v8 h H locs hH hf => ?_)
        refine lv_pop hx hb dX8_first_66 rfl ?_
        refine lv_iinc (v := (x4 + (1 : Int32))) (lv' := [(4, .int (x4 + (1 : Int32))), (0, .ref x0), (1, .int x1), (2, .int x2)]) hx hb dX8_first_67 hl (k := 3) rfl rfl (by decide) rfl (fun ls hl => ?_)
        refine lv_goto (tgt := 27) hx hb dX8_first_70 (by decide) ?_
        exact ik27 x0 x1 x2 (x4 + (1 : Int32)) h H locs ls hH (lv_sub hl [1, 2, 3, 0] rfl) hf
      · refine lv_aload_n hx hb dX8_first_51 rfl (lv_at hl 0 rfl) ?_
        refine p_getR X hH fg_RX8_16 hf dX8_first_52 (fun v9 _ hf => ?_)
        refine p_getI X hH fg_RX8_104 hf dX8_first_55 (fun v10 _ hf => ?_)
        exact p_iret X hH hf (by decide) (by decide) dX8_first_58
set_option maxRecDepth 100000 in
set_option maxHeartbeats 4000000 in
theorem w_X8_first_b24 {G : GE} {p : Program} (l : Launch) {e : Env} {s : State} {m : MethodId} {args : Array Value} {below : List Frame} {meth : Method} {c : Code} {rr : Int32} {hh : PH} (X : Cx G p s m args meth c cX8_first 5 RX8 "first" (some .int)) (x0 : Nat) (x1 : Int32) (x2 : Int32) (h : PH) (H : Heap) (locs : List Loc) (ls : Array Slot) (hH : Hx G s h H locs) (hl : lv_has ls 5 [(0, .ref x0), (1, .int x1), (2, .int x2)]) (hf : f_X8_first_b24 G x0 x1 x2 h = some (rr, hh)) : W p l e rm_X8_first s m args below meth c H locs 0 0 (Fq G (some (.int rr)) hh below args s rm_X8_first.cells rm_X8_first.slots) (F0 m 24 ls []) := by
  have hx := X.1
  have hb := X.2.1
  unfold f_X8_first_b24 at hf
  refine lv_iconst (v := 0) hx hb dX8_first_24 (by decide) ?_
  refine lv_istore (lv' := [(4, .int (0 : Int32)), (0, .ref x0), (1, .int x1), (2, .int x2)]) hx hb dX8_first_25 hl (by decide) rfl (fun ls hl => ?_)
  exact w_X8_first_b27 l X LF x0 x1 x2 (0 : Int32) h H locs ls hH (lv_sub hl [1, 2, 3, 0] rfl) hf
set_option maxRecDepth 100000 in
set_option maxHeartbeats 4000000 in
theorem c_X8_first (l : Launch) (G : GE) (x0 : Nat) (x1 : Int32) (x2 : Int32) (x3 : Int32) (h : PH) (rr : Int32) (hh : PH) (hf : f_X8_first G x0 x1 x2 x3 h = some (rr, hh)) : Ct l yX8_first cX8_first 5 (some .int) rm_X8_first G [.ref x0, .int x1, .int x2, .int x3] h (some (.int rr)) hh := by
  refine Ct.of (plainFor_of_name (by decide)) (Nat.le_of_ble_eq_true rfl) ?_
  intro p e s m args below meth c ls X hH hl
  have hl : lv_has ls 5 [(0, .ref x0), (1, .int x1), (2, .int x2), (3, .int x3)] := hl
  have X : Cx G p s m args meth c cX8_first 5 RX8 "first" (some .int) := X
  have hx := X.1
  have hb := X.2.1
  unfold f_X8_first at hf
  obtain ⟨H, hHe⟩ : ∃ z, z = s.heap := ⟨_, rfl⟩
  obtain ⟨locs, hLe⟩ : ∃ z, z = ([] : List Loc) := ⟨_, rfl⟩
  rw [← hHe, ← hLe] at hH
  rw [← hHe, ← hLe]
  refine lv_aload_n hx hb dX8_first_0 rfl (lv_at hl 0 rfl) ?_
  refine p_getR X hH fg_RX8_16 hf dX8_first_1 (fun v1 _ hf => ?_)
  refine lv_aload_n hx hb dX8_first_4 rfl (lv_at hl 0 rfl) ?_
  refine p_getR X hH fg_RX8_10 hf dX8_first_5 (fun v2 _ hf => ?_)
  refine p_cVV (As := [.ref v2]) (b := v1) (rest := []) (ci := 8) X hH rfl hf (fun _ _ e_ => c_X7_become l G v1 v2 h _ _ e_) mv_X7_become lk_RX8_143 (by decide) rfl hl.1 (Nat.le_of_ble_eq_true rfl) dX8_first_8 (c2 := 0) (s2 := 0) (by decide) (fun _ h H locs hH hf => ?_)
  refine lv_iload_n hx hb dX8_first_11 rfl (lv_at hl 3 rfl) ?_
  refine lv_iconst (v := -1) hx hb dX8_first_12 (by decide) ?_
  refine p_icmp_eq X hf dX8_first_13 (tgt := 24) (by decide) (fun _ hf => ?_) (fun _ hf => ?_)
  · exact w_X8_first_b24 l X x0 x1 x2 h H locs ls hH (lv_sub hl [0, 1, 2] rfl) hf
  · refine lv_aload_n hx hb dX8_first_16 rfl (lv_at hl 0 rfl) ?_
    refine p_getR X hH fg_RX8_16 hf dX8_first_17 (fun v3 _ hf => ?_)
    refine lv_iload_n hx hb dX8_first_20 rfl (lv_at hl 3 rfl) ?_
    refine p_cVV (As := [.int x3]) (b := v3) (rest := []) (ci := 8) X hH rfl hf (fun _ _ e_ => c_X7_oil l G v3 x3 h _ _ e_) mv_X7_oil lk_RX8_72 (by decide) rfl hl.1 (Nat.le_of_ble_eq_true rfl) dX8_first_21 (c2 := 0) (s2 := 0) (by decide) (fun _ h H locs hH hf => ?_)
    exact w_X8_first_b24 l X x0 x1 x2 h H locs ls hH (lv_sub hl [0, 1, 2] rfl) hf
set_option maxRecDepth 100000 in
set_option maxHeartbeats 4000000 in
theorem w_X8_passes_b65 {G : GE} {p : Program} (l : Launch) {e : Env} {s : State} {m : MethodId} {args : Array Value} {below : List Frame} {meth : Method} {c : Code} {rr : Int32} {hh : PH} (X : Cx G p s m args meth c cX8_passes 3 RX8 "passes" (some .int)) (t0 : Int32) (h : PH) (H : Heap) (locs : List Loc) (ls : Array Slot) (hH : Hx G s h H locs) (hl : lv_has ls 3 []) (hf : f_X8_passes_b65 G t0 h = some (rr, hh)) : W p l e rm_X8_passes s m args below meth c H locs 0 0 (Fq G (some (.int rr)) hh below args s rm_X8_passes.cells rm_X8_passes.slots) (F0 m 65 ls [.int t0]) := by
  have hx := X.1
  have hb := X.2.1
  unfold f_X8_passes_b65 at hf
  exact p_iret X hH hf (by decide) (by decide) dX8_passes_65
set_option maxRecDepth 100000 in
set_option maxHeartbeats 4000000 in
theorem c_X8_passes (l : Launch) (G : GE) (x0 : Nat) (x1 : Int32) (x2 : Int32) (h : PH) (rr : Int32) (hh : PH) (hf : f_X8_passes G x0 x1 x2 h = some (rr, hh)) : Ct l yX8_passes cX8_passes 3 (some .int) rm_X8_passes G [.ref x0, .int x1, .int x2] h (some (.int rr)) hh := by
  refine Ct.of (plainFor_of_name (by decide)) (Nat.le_of_ble_eq_true rfl) ?_
  intro p e s m args below meth c ls X hH hl
  have hl : lv_has ls 3 [(0, .ref x0), (1, .int x1), (2, .int x2)] := hl
  have X : Cx G p s m args meth c cX8_passes 3 RX8 "passes" (some .int) := X
  have hx := X.1
  have hb := X.2.1
  unfold f_X8_passes at hf
  obtain ⟨H, hHe⟩ : ∃ z, z = s.heap := ⟨_, rfl⟩
  obtain ⟨locs, hLe⟩ : ∃ z, z = ([] : List Loc) := ⟨_, rfl⟩
  rw [← hHe, ← hLe] at hH
  rw [← hHe, ← hLe]
  refine lv_aload_n hx hb dX8_passes_0 rfl (lv_at hl 0 rfl) ?_
  refine lv_iconst (v := 0) hx hb dX8_passes_1 (by decide) ?_
  refine p_put X hH fp_RX8_19 rfl rfl hf dX8_passes_2 (fun h H locs hH hf => ?_)
  refine lv_aload_n hx hb dX8_passes_5 rfl (lv_at hl 0 rfl) ?_
  refine lv_iload_n hx hb dX8_passes_6 rfl (lv_at hl 1 rfl) ?_
  refine p_cVI (As := [.int x1]) (b := x0) (rest := []) (ci := 9) X hH rfl hf (fun _ _ e_ => c_X8_isMotion l G x0 x1 h _ _ e_) mv_X8_isMotion lk_RX8_101 (by decide) rfl hl.1 (Nat.le_of_ble_eq_true rfl) dX8_passes_7 (c2 := 0) (s2 := 0) (by decide) (fun v1 h H locs hH hf => ?_)
  refine p_if_ne X hf dX8_passes_10 (tgt := 19) (by decide) (fun _ hf => ?_) (fun _ hf => ?_)
  · refine lv_iload_n hx hb dX8_passes_19 rfl (lv_at hl 2 rfl) ?_
    refine lv_iconst (v := 1) hx hb dX8_passes_20 (by decide) ?_
    refine lv_bipush (v := 100) hx hb dX8_passes_21 (by decide) ?_
    refine p_cSI (As := [.int x2, .int (1 : Int32), .int (100 : Int32)]) (rest := []) X hH hf (fun _ _ e_ => c_X8_isIn l G x2 (1 : Int32) (100 : Int32) h _ _ e_) ms_X8_isIn lk_RX8_34 (by decide) rfl hl.1 (Nat.le_of_ble_eq_true rfl) dX8_passes_23 (c2 := 0) (s2 := 0) (by decide) (fun v2 h H locs hH hf => ?_)
    refine p_if_ne X hf dX8_passes_26 (tgt := 35) (by decide) (fun _ hf => ?_) (fun _ hf => ?_)
    · refine lv_aload_n hx hb dX8_passes_35 rfl (lv_at hl 0 rfl) ?_
      refine p_getR X hH fg_RX8_10 hf dX8_passes_36 (fun v3 _ hf => ?_)
      refine p_getI X hH fg_RX8_104 hf dX8_passes_39 (fun v4 _ hf => ?_)
      refine lv_iload_n hx hb dX8_passes_42 rfl (lv_at hl 2 rfl) ?_
      refine lv_iadd hx hb dX8_passes_43 ?_
      refine lv_sipush (v := 2000) hx hb dX8_passes_44 (by decide) ?_
      refine p_icmp_le X hf dX8_passes_47 (tgt := 58) (by decide) (fun _ hf => ?_) (fun _ hf => ?_)
      · refine lv_aload_n hx hb dX8_passes_58 rfl (lv_at hl 0 rfl) ?_
        refine lv_iload_n hx hb dX8_passes_59 rfl (lv_at hl 1 rfl) ?_
        refine lv_iload_n hx hb dX8_passes_60 rfl (lv_at hl 2 rfl) ?_
        refine lv_iconst (v := -1) hx hb dX8_passes_61 (by decide) ?_
        refine p_cVI (As := [.int x1, .int x2, .int (-1 : Int32)]) (b := x0) (rest := []) (ci := 9) X hH rfl hf (fun _ _ e_ => c_X8_first l G x0 x1 x2 (-1 : Int32) h _ _ e_) mv_X8_first lk_RX8_153 (by decide) rfl hl.1 (Nat.le_of_ble_eq_true rfl) dX8_passes_62 (c2 := 0) (s2 := 0) (by decide) (fun v5 h H locs hH hf => ?_)
        exact w_X8_passes_b65 l X v5 h H locs ls hH (lv_sub hl [] rfl) hf
      · refine lv_aload_n hx hb dX8_passes_50 rfl (lv_at hl 0 rfl) ?_
        refine lv_iconst (v := 3) hx hb dX8_passes_51 (by decide) ?_
        refine p_cVI (As := [.int (3 : Int32)]) (b := x0) (rest := []) (ci := 9) X hH rfl hf (fun _ _ e_ => c_X8_no l G x0 (3 : Int32) h _ _ e_) mv_X8_no lk_RX8_38 (by decide) rfl hl.1 (Nat.le_of_ble_eq_true rfl) dX8_passes_52 (c2 := 0) (s2 := 0) (by decide) (fun v6 h H locs hH hf => ?_)
        refine lv_goto (tgt := 65) hx hb dX8_passes_55 (by decide) ?_
        exact w_X8_passes_b65 l X v6 h H locs ls hH (lv_sub hl [] rfl) hf
    · refine lv_aload_n hx hb dX8_passes_29 rfl (lv_at hl 0 rfl) ?_
      refine lv_iconst (v := 2) hx hb dX8_passes_30 (by decide) ?_
      refine p_cVI (As := [.int (2 : Int32)]) (b := x0) (rest := []) (ci := 9) X hH rfl hf (fun _ _ e_ => c_X8_no l G x0 (2 : Int32) h _ _ e_) mv_X8_no lk_RX8_38 (by decide) rfl hl.1 (Nat.le_of_ble_eq_true rfl) dX8_passes_31 (c2 := 0) (s2 := 0) (by decide) (fun v7 h H locs hH hf => ?_)
      exact p_iret X hH hf (by decide) (by decide) dX8_passes_34
  · refine lv_aload_n hx hb dX8_passes_13 rfl (lv_at hl 0 rfl) ?_
    refine lv_iconst (v := 1) hx hb dX8_passes_14 (by decide) ?_
    refine p_cVI (As := [.int (1 : Int32)]) (b := x0) (rest := []) (ci := 9) X hH rfl hf (fun _ _ e_ => c_X8_no l G x0 (1 : Int32) h _ _ e_) mv_X8_no lk_RX8_38 (by decide) rfl hl.1 (Nat.le_of_ble_eq_true rfl) dX8_passes_15 (c2 := 0) (s2 := 0) (by decide) (fun v8 h H locs hH hf => ?_)
    exact p_iret X hH hf (by decide) (by decide) dX8_passes_18
set_option maxRecDepth 100000 in
set_option maxHeartbeats 4000000 in
theorem w_X8_advise_b121 {G : GE} {p : Program} (l : Launch) {e : Env} {s : State} {m : MethodId} {args : Array Value} {below : List Frame} {meth : Method} {c : Code} {rr : Int32} {hh : PH} (X : Cx G p s m args meth c cX8_advise 7 RX8 "advise" (some .int)) (k70 : Nat → Int32 → Int32 → Int32 → Int32 → Int32 → PH → Option (Int32 × PH)) (ik70 : ∀ (x0 : Nat) (x1 : Int32) (x2 : Int32) (x3 : Int32) (x4 : Int32) (x5 : Int32) (h : PH) (H : Heap) (locs : List Loc) (ls : Array Slot), Hx G s h H locs → lv_has ls 7 [(0, .ref x0), (1, .int x1), (2, .int x2), (3, .int x3), (4, .int x4), (5, .int x5)] → k70 x0 x1 x2 x3 x4 x5 h = some (rr, hh) → W p l e rm_X8_advise s m args below meth c H locs 0 0 (Fq G (some (.int rr)) hh below args s rm_X8_advise.cells rm_X8_advise.slots) (F0 m 70 ls [])) (x0 : Nat) (x1 : Int32) (x2 : Int32) (x3 : Int32) (x4 : Int32) (x5 : Int32) (h : PH) (H : Heap) (locs : List Loc) (ls : Array Slot) (hH : Hx G s h H locs) (hl : lv_has ls 7 [(0, .ref x0), (1, .int x1), (2, .int x2), (3, .int x3), (4, .int x4), (5, .int x5)]) (hf : f_X8_advise_b121 G k70 x0 x1 x2 x3 x4 x5 h = some (rr, hh)) : W p l e rm_X8_advise s m args below meth c H locs 0 0 (Fq G (some (.int rr)) hh below args s rm_X8_advise.cells rm_X8_advise.slots) (F0 m 121 ls []) := by
  have hx := X.1
  have hb := X.2.1
  unfold f_X8_advise_b121 at hf
  refine lv_iinc (v := (x5 + (1 : Int32))) (lv' := [(5, .int (x5 + (1 : Int32))), (0, .ref x0), (1, .int x1), (2, .int x2), (3, .int x3), (4, .int x4)]) hx hb dX8_advise_121 hl (k := 5) rfl rfl (by decide) rfl (fun ls hl => ?_)
  refine lv_goto (tgt := 70) hx hb dX8_advise_124 (by decide) ?_
  exact ik70 x0 x1 x2 x3 x4 (x5 + (1 : Int32)) h H locs ls hH (lv_sub hl [1, 2, 3, 4, 5, 0] rfl) hf
set_option maxRecDepth 100000 in
set_option maxHeartbeats 4000000 in
theorem w_X8_advise_b114 {G : GE} {p : Program} (l : Launch) {e : Env} {s : State} {m : MethodId} {args : Array Value} {below : List Frame} {meth : Method} {c : Code} {rr : Int32} {hh : PH} (X : Cx G p s m args meth c cX8_advise 7 RX8 "advise" (some .int)) (k70 : Nat → Int32 → Int32 → Int32 → Int32 → Int32 → PH → Option (Int32 × PH)) (ik70 : ∀ (x0 : Nat) (x1 : Int32) (x2 : Int32) (x3 : Int32) (x4 : Int32) (x5 : Int32) (h : PH) (H : Heap) (locs : List Loc) (ls : Array Slot), Hx G s h H locs → lv_has ls 7 [(0, .ref x0), (1, .int x1), (2, .int x2), (3, .int x3), (4, .int x4), (5, .int x5)] → k70 x0 x1 x2 x3 x4 x5 h = some (rr, hh) → W p l e rm_X8_advise s m args below meth c H locs 0 0 (Fq G (some (.int rr)) hh below args s rm_X8_advise.cells rm_X8_advise.slots) (F0 m 70 ls [])) (x0 : Nat) (x1 : Int32) (x2 : Int32) (x5 : Int32) (x6 : Int32) (h : PH) (H : Heap) (locs : List Loc) (ls : Array Slot) (hH : Hx G s h H locs) (hl : lv_has ls 7 [(0, .ref x0), (1, .int x1), (2, .int x2), (5, .int x5), (6, .int x6)]) (hf : f_X8_advise_b114 G k70 x0 x1 x2 x5 x6 h = some (rr, hh)) : W p l e rm_X8_advise s m args below meth c H locs 0 0 (Fq G (some (.int rr)) hh below args s rm_X8_advise.cells rm_X8_advise.slots) (F0 m 114 ls []) := by
  have hx := X.1
  have hb := X.2.1
  unfold f_X8_advise_b114 at hf
  refine lv_iload hx hb dX8_advise_114 (lv_at hl 4 rfl) ?_
  refine lv_istore (lv' := [(4, .int x6), (0, .ref x0), (1, .int x1), (2, .int x2), (5, .int x5), (6, .int x6)]) hx hb dX8_advise_116 hl (by decide) rfl (fun ls hl => ?_)
  refine lv_iload hx hb dX8_advise_118 (lv_at hl 4 rfl) ?_
  refine lv_istore_n (lv' := [(3, .int x5), (4, .int x6), (0, .ref x0), (1, .int x1), (2, .int x2), (5, .int x5), (6, .int x6)]) hx hb dX8_advise_120 rfl hl (by decide) rfl (fun ls hl => ?_)
  exact w_X8_advise_b121 l X k70 ik70 x0 x1 x2 x5 x6 x5 h H locs ls hH (lv_sub hl [2, 3, 4, 0, 1, 5] rfl) hf
set_option maxRecDepth 100000 in
set_option maxHeartbeats 4000000 in
theorem w_X8_advise_b70 {G : GE} {p : Program} (l : Launch) {e : Env} {s : State} {m : MethodId} {args : Array Value} {below : List Frame} {meth : Method} {c : Code} {rr : Int32} {hh : PH} (X : Cx G p s m args meth c cX8_advise 7 RX8 "advise" (some .int)) : ∀ (n : Nat) (x0 : Nat) (x1 : Int32) (x2 : Int32) (x3 : Int32) (x4 : Int32) (x5 : Int32) (h : PH) (H : Heap) (locs : List Loc) (ls : Array Slot) (hH : Hx G s h H locs) (hl : lv_has ls 7 [(0, .ref x0), (1, .int x1), (2, .int x2), (3, .int x3), (4, .int x4), (5, .int x5)]) (hf : f_X8_advise_b70 G n x0 x1 x2 x3 x4 x5 h = some (rr, hh)), W p l e rm_X8_advise s m args below meth c H locs 0 0 (Fq G (some (.int rr)) hh below args s rm_X8_advise.cells rm_X8_advise.slots) (F0 m 70 ls []) := by
  have hx := X.1
  have hb := X.2.1
  intro n
  induction n with
  | zero =>
    intro x0 x1 x2 x3 x4 x5 h H locs ls hH hl hf
    have hf : (none : Option (Int32 × PH)) = some (rr, hh) := hf
    cases hf
  | succ n ih =>
    intro x0 x1 x2 x3 x4 x5 h H locs ls hH hl hf
    have hf : f_X8_advise_b70_body G (f_X8_advise_b70 G n) x0 x1 x2 x3 x4 x5 h = some (rr, hh) := hf
    generalize f_X8_advise_b70 G n = k70 at hf ih
    have ik70 := ih
    unfold f_X8_advise_b70_body at hf
    refine lv_iload hx hb dX8_advise_70 (lv_at hl 5 rfl) ?_
    refine lv_aload_n hx hb dX8_advise_72 rfl (lv_at hl 0 rfl) ?_
    refine p_getR X hH fg_RX8_10 hf dX8_advise_73 (fun v9 _ hf => ?_)
    refine p_getI X hH fg_RX8_53 hf dX8_advise_76 (fun v10 _ hf => ?_)
    refine p_icmp_ge X hf dX8_advise_79 (tgt := 127) (by decide) (fun _ hf => ?_) (fun _ hf => ?_)
    · refine lv_iload_n hx hb dX8_advise_127 rfl (lv_at hl 3 rfl) ?_
      exact p_iret X hH hf (by decide) (by decide) dX8_advise_128
    · refine lv_aload_n hx hb dX8_advise_82 rfl (lv_at hl 0 rfl) ?_
      refine lv_iload_n hx hb dX8_advise_83 rfl (lv_at hl 1 rfl) ?_
      refine lv_iload_n hx hb dX8_advise_84 rfl (lv_at hl 2 rfl) ?_
      refine lv_iload hx hb dX8_advise_85 (lv_at hl 5 rfl) ?_
      refine p_cVI (As := [.int x1, .int x2, .int x5]) (b := x0) (rest := []) (ci := 9) X hH rfl hf (fun _ _ e_ => c_X8_first l G x0 x1 x2 x5 h _ _ e_) mv_X8_first lk_RX8_153 (by decide) rfl hl.1 (Nat.le_of_ble_eq_true rfl) dX8_advise_87 (c2 := 0) (s2 := 0) (by decide) (fun v11 h H locs hH hf => ?_)
      refine lv_istore (lv' := [(6, .int v11), (0, .ref x0), (1, .int x1), (2, .int x2), (3, .int x3), (4, .int x4), (5, .int x5)]) hx hb dX8_advise_90 hl (by decide) rfl (fun ls hl => ?_)
      refine lv_iload hx hb dX8_advise_92 (lv_at hl 0 rfl) ?_
      refine lv_iconst (v := -1) hx hb dX8_advise_94 (by decide) ?_
      refine p_icmp_eq X hf dX8_advise_95 (tgt := 121) (by decide) (fun _ hf => ?_) (fun _ hf => ?_)
      · exact w_X8_advise_b121 l X k70 ik70 x0 x1 x2 x3 x4 x5 h H locs ls hH (lv_sub hl [1, 2, 3, 4, 5, 6] rfl) hf
      · refine lv_iload hx hb dX8_advise_98 (lv_at hl 5 rfl) ?_
        refine lv_iconst (v := -1) hx hb dX8_advise_100 (by decide) ?_
        refine p_icmp_eq X hf dX8_advise_101 (tgt := 114) (by decide) (fun _ hf => ?_) (fun _ hf => ?_)
        · exact w_X8_advise_b114 l X k70 ik70 x0 x1 x2 x5 v11 h H locs ls hH (lv_sub hl [1, 2, 3, 6, 0] rfl) hf
        · refine lv_iload hx hb dX8_advise_104 (lv_at hl 0 rfl) ?_
          refine lv_iload hx hb dX8_advise_106 (lv_at hl 5 rfl) ?_
          refine p_icmp_lt X hf dX8_advise_108 (tgt := 114) (by decide) (fun _ hf => ?_) (fun _ hf => ?_)
          · exact w_X8_advise_b114 l X k70 ik70 x0 x1 x2 x5 v11 h H locs ls hH (lv_sub hl [1, 2, 3, 6, 0] rfl) hf
          · refine lv_goto (tgt := 121) hx hb dX8_advise_111 (by decide) ?_
            exact w_X8_advise_b121 l X k70 ik70 x0 x1 x2 x3 x4 x5 h H locs ls hH (lv_sub hl [1, 2, 3, 4, 5, 6] rfl) hf
set_option maxRecDepth 100000 in
set_option maxHeartbeats 4000000 in
theorem c_X8_advise (l : Launch) (G : GE) (x0 : Nat) (x1 : Int32) (x2 : Int32) (h : PH) (rr : Int32) (hh : PH) (hf : f_X8_advise G x0 x1 x2 h = some (rr, hh)) : Ct l yX8_advise cX8_advise 7 (some .int) rm_X8_advise G [.ref x0, .int x1, .int x2] h (some (.int rr)) hh := by
  refine Ct.of (plainFor_of_name (by decide)) (Nat.le_of_ble_eq_true rfl) ?_
  intro p e s m args below meth c ls X hH hl
  have hl : lv_has ls 7 [(0, .ref x0), (1, .int x1), (2, .int x2)] := hl
  have X : Cx G p s m args meth c cX8_advise 7 RX8 "advise" (some .int) := X
  have hx := X.1
  have hb := X.2.1
  unfold f_X8_advise at hf
  obtain ⟨H, hHe⟩ : ∃ z, z = s.heap := ⟨_, rfl⟩
  obtain ⟨locs, hLe⟩ : ∃ z, z = ([] : List Loc) := ⟨_, rfl⟩
  rw [← hHe, ← hLe] at hH
  rw [← hHe, ← hLe]
  refine lv_aload_n hx hb dX8_advise_0 rfl (lv_at hl 0 rfl) ?_
  refine lv_iconst (v := 0) hx hb dX8_advise_1 (by decide) ?_
  refine p_put X hH fp_RX8_19 rfl rfl hf dX8_advise_2 (fun h H locs hH hf => ?_)
  refine lv_aload_n hx hb dX8_advise_5 rfl (lv_at hl 0 rfl) ?_
  refine lv_iload_n hx hb dX8_advise_6 rfl (lv_at hl 1 rfl) ?_
  refine p_cVI (As := [.int x1]) (b := x0) (rest := []) (ci := 9) X hH rfl hf (fun _ _ e_ => c_X8_isMotion l G x0 x1 h _ _ e_) mv_X8_isMotion lk_RX8_101 (by decide) rfl hl.1 (Nat.le_of_ble_eq_true rfl) dX8_advise_7 (c2 := 0) (s2 := 0) (by decide) (fun v1 h H locs hH hf => ?_)
  refine p_if_ne X hf dX8_advise_10 (tgt := 19) (by decide) (fun _ hf => ?_) (fun _ hf => ?_)
  · refine lv_iload_n hx hb dX8_advise_19 rfl (lv_at hl 2 rfl) ?_
    refine lv_iconst (v := 1) hx hb dX8_advise_20 (by decide) ?_
    refine lv_bipush (v := 50) hx hb dX8_advise_21 (by decide) ?_
    refine p_cSI (As := [.int x2, .int (1 : Int32), .int (50 : Int32)]) (rest := []) X hH hf (fun _ _ e_ => c_X8_isIn l G x2 (1 : Int32) (50 : Int32) h _ _ e_) ms_X8_isIn lk_RX8_34 (by decide) rfl hl.1 (Nat.le_of_ble_eq_true rfl) dX8_advise_23 (c2 := 0) (s2 := 0) (by decide) (fun v2 h H locs hH hf => ?_)
    refine p_if_ne X hf dX8_advise_26 (tgt := 35) (by decide) (fun _ hf => ?_) (fun _ hf => ?_)
    · refine lv_aload_n hx hb dX8_advise_35 rfl (lv_at hl 0 rfl) ?_
      refine p_getR X hH fg_RX8_10 hf dX8_advise_36 (fun v3 _ hf => ?_)
      refine p_getI X hH fg_RX8_104 hf dX8_advise_39 (fun v4 _ hf => ?_)
      refine lv_iload_n hx hb dX8_advise_42 rfl (lv_at hl 2 rfl) ?_
      refine lv_iadd hx hb dX8_advise_43 ?_
      refine lv_sipush (v := 2000) hx hb dX8_advise_44 (by decide) ?_
      refine p_icmp_le X hf dX8_advise_47 (tgt := 56) (by decide) (fun _ hf => ?_) (fun _ hf => ?_)
      · refine lv_iconst (v := -1) hx hb dX8_advise_56 (by decide) ?_
        refine lv_istore_n (lv' := [(3, .int (-1 : Int32)), (0, .ref x0), (1, .int x1), (2, .int x2)]) hx hb dX8_advise_57 rfl hl (by decide) rfl (fun ls hl => ?_)
        refine lv_aload_n hx hb dX8_advise_58 rfl (lv_at hl 1 rfl) ?_
        refine lv_iload_n hx hb dX8_advise_59 rfl (lv_at hl 2 rfl) ?_
        refine lv_iload_n hx hb dX8_advise_60 rfl (lv_at hl 3 rfl) ?_
        refine lv_iconst (v := -1) hx hb dX8_advise_61 (by decide) ?_
        refine p_cVI (As := [.int x1, .int x2, .int (-1 : Int32)]) (b := x0) (rest := []) (ci := 9) X hH rfl hf (fun _ _ e_ => c_X8_first l G x0 x1 x2 (-1 : Int32) h _ _ e_) mv_X8_first lk_RX8_153 (by decide) rfl hl.1 (Nat.le_of_ble_eq_true rfl) dX8_advise_62 (c2 := 0) (s2 := 0) (by decide) (fun v5 h H locs hH hf => ?_)
        refine lv_istore (lv' := [(4, .int v5), (3, .int (-1 : Int32)), (0, .ref x0), (1, .int x1), (2, .int x2)]) hx hb dX8_advise_65 hl (by decide) rfl (fun ls hl => ?_)
        refine lv_iconst (v := 0) hx hb dX8_advise_67 (by decide) ?_
        refine lv_istore (lv' := [(5, .int (0 : Int32)), (4, .int v5), (3, .int (-1 : Int32)), (0, .ref x0), (1, .int x1), (2, .int x2)]) hx hb dX8_advise_68 hl (by decide) rfl (fun ls hl => ?_)
        exact w_X8_advise_b70 l X LF x0 x1 x2 (-1 : Int32) v5 (0 : Int32) h H locs ls hH (lv_sub hl [3, 4, 5, 2, 1, 0] rfl) hf
      · refine lv_aload_n hx hb dX8_advise_50 rfl (lv_at hl 0 rfl) ?_
        refine lv_iconst (v := 3) hx hb dX8_advise_51 (by decide) ?_
        refine p_cVI (As := [.int (3 : Int32)]) (b := x0) (rest := []) (ci := 9) X hH rfl hf (fun _ _ e_ => c_X8_no l G x0 (3 : Int32) h _ _ e_) mv_X8_no lk_RX8_38 (by decide) rfl hl.1 (Nat.le_of_ble_eq_true rfl) dX8_advise_52 (c2 := 0) (s2 := 0) (by decide) (fun v6 h H locs hH hf => ?_)
        exact p_iret X hH hf (by decide) (by decide) dX8_advise_55
    · refine lv_aload_n hx hb dX8_advise_29 rfl (lv_at hl 0 rfl) ?_
      refine lv_iconst (v := 2) hx hb dX8_advise_30 (by decide) ?_
      refine p_cVI (As := [.int (2 : Int32)]) (b := x0) (rest := []) (ci := 9) X hH rfl hf (fun _ _ e_ => c_X8_no l G x0 (2 : Int32) h _ _ e_) mv_X8_no lk_RX8_38 (by decide) rfl hl.1 (Nat.le_of_ble_eq_true rfl) dX8_advise_31 (c2 := 0) (s2 := 0) (by decide) (fun v7 h H locs hH hf => ?_)
      exact p_iret X hH hf (by decide) (by decide) dX8_advise_34
  · refine lv_aload_n hx hb dX8_advise_13 rfl (lv_at hl 0 rfl) ?_
    refine lv_iconst (v := 1) hx hb dX8_advise_14 (by decide) ?_
    refine p_cVI (As := [.int (1 : Int32)]) (b := x0) (rest := []) (ci := 9) X hH rfl hf (fun _ _ e_ => c_X8_no l G x0 (1 : Int32) h _ _ e_) mv_X8_no lk_RX8_38 (by decide) rfl hl.1 (Nat.le_of_ble_eq_true rfl) dX8_advise_15 (c2 := 0) (s2 := 0) (by decide) (fun v8 h H locs hH hf => ?_)
    exact p_iret X hH hf (by decide) (by decide) dX8_advise_18
set_option maxRecDepth 100000 in
set_option maxHeartbeats 4000000 in
theorem w_X8_discord_b85 {G : GE} {p : Program} (l : Launch) {e : Env} {s : State} {m : MethodId} {args : Array Value} {below : List Frame} {meth : Method} {c : Code} {rr : UInt64} {hh : PH} (X : Cx G p s m args meth c cX8_discord 3 RX8 "discord" (some .double)) (t0 : UInt64) (h : PH) (H : Heap) (locs : List Loc) (ls : Array Slot) (hH : Hx G s h H locs) (hl : lv_has ls 3 []) (hf : f_X8_discord_b85 G t0 h = some (rr, hh)) : W p l e rm_X8_discord s m args below meth c H locs 0 0 (Fq G (some (.double rr)) hh below args s rm_X8_discord.cells rm_X8_discord.slots) (F0 m 85 ls [.double t0]) := by
  have hx := X.1
  have hb := X.2.1
  unfold f_X8_discord_b85 at hf
  exact p_dret X hH hf (by decide) (by decide) dX8_discord_85
set_option maxRecDepth 100000 in
set_option maxHeartbeats 4000000 in
theorem w_X8_discord_b9 {G : GE} {p : Program} (l : Launch) {e : Env} {s : State} {m : MethodId} {args : Array Value} {below : List Frame} {meth : Method} {c : Code} {rr : UInt64} {hh : PH} (X : Cx G p s m args meth c cX8_discord 3 RX8 "discord" (some .double)) : ∀ (n : Nat) (x0 : Nat) (x1 : Int32) (x2 : Int32) (h : PH) (H : Heap) (locs : List Loc) (ls : Array Slot) (hH : Hx G s h H locs) (hl : lv_has ls 3 [(0, .ref x0), (1, .int x1), (2, .int x2)]) (hf : f_X8_discord_b9 G n x0 x1 x2 h = some (rr, hh)), W p l e rm_X8_discord s m args below meth c H locs 0 0 (Fq G (some (.double rr)) hh below args s rm_X8_discord.cells rm_X8_discord.slots) (F0 m 9 ls []) := by
  have hx := X.1
  have hb := X.2.1
  intro n
  induction n with
  | zero =>
    intro x0 x1 x2 h H locs ls hH hl hf
    have hf : (none : Option (UInt64 × PH)) = some (rr, hh) := hf
    cases hf
  | succ n ih =>
    intro x0 x1 x2 h H locs ls hH hl hf
    have hf : f_X8_discord_b9_body G (f_X8_discord_b9 G n) x0 x1 x2 h = some (rr, hh) := hf
    generalize f_X8_discord_b9 G n = k9 at hf ih
    have ik9 := ih
    unfold f_X8_discord_b9_body at hf
    refine lv_iload_n hx hb dX8_discord_9 rfl (lv_at hl 2 rfl) ?_
    refine lv_aload_n hx hb dX8_discord_10 rfl (lv_at hl 0 rfl) ?_
    refine p_getR X hH fg_RX8_10 hf dX8_discord_11 (fun v1 _ hf => ?_)
    refine p_getI X hH fg_RX8_53 hf dX8_discord_14 (fun v2 _ hf => ?_)
    refine p_icmp_ge X hf dX8_discord_17 (tgt := 60) (by decide) (fun _ hf => ?_) (fun _ hf => ?_)
    · refine lv_aload_n hx hb dX8_discord_60 rfl (lv_at hl 0 rfl) ?_
      refine p_getR X hH fg_RX8_10 hf dX8_discord_61 (fun v3 _ hf => ?_)
      refine p_getI X hH fg_RX8_53 hf dX8_discord_64 (fun v4 _ hf => ?_)
      refine p_if_ne X hf dX8_discord_67 (tgt := 74) (by decide) (fun _ hf => ?_) (fun _ hf => ?_)
      · refine lv_iload_n hx hb dX8_discord_74 rfl (lv_at hl 1 rfl) ?_
        refine lv_i2d hx hb dX8_discord_75 ?_
        refine lv_aload_n hx hb dX8_discord_76 rfl (lv_at hl 0 rfl) ?_
        refine p_getR X hH fg_RX8_10 hf dX8_discord_77 (fun v5 _ hf => ?_)
        refine p_getI X hH fg_RX8_53 hf dX8_discord_80 (fun v6 _ hf => ?_)
        refine lv_i2d hx hb dX8_discord_83 ?_
        refine p_ddiv X hf dX8_discord_84 (fun hf => ?_)
        exact w_X8_discord_b85 l X (FP.ddiv (FP.i2d x1) (FP.i2d v6)) h H locs ls hH (lv_sub hl [] rfl) hf
      · refine lv_dconst0 hx hb dX8_discord_70 ?_
        refine lv_goto (tgt := 85) hx hb dX8_discord_71 (by decide) ?_
        exact w_X8_discord_b85 l X (0 : UInt64) h H locs ls hH (lv_sub hl [] rfl) hf
    · refine lv_iload_n hx hb dX8_discord_20 rfl (lv_at hl 1 rfl) ?_
      refine lv_aload_n hx hb dX8_discord_21 rfl (lv_at hl 0 rfl) ?_
      refine p_getR X hH fg_RX8_10 hf dX8_discord_22 (fun v7 _ hf => ?_)
      refine lv_iload_n hx hb dX8_discord_25 rfl (lv_at hl 2 rfl) ?_
      refine lv_bipush (v := 6) hx hb dX8_discord_26 (by decide) ?_
      refine p_cVI (As := [.int x2, .int (6 : Int32)]) (b := v7) (rest := [.int x1]) (ci := 8) X hH rfl hf (fun _ _ e_ => c_X7_of l G v7 x2 (6 : Int32) h _ _ e_) mv_X7_of lk_RX8_56 (by decide) rfl hl.1 (Nat.le_of_ble_eq_true rfl) dX8_discord_28 (c2 := 0) (s2 := 0) (by decide) (fun v8 h H locs hH hf => ?_)
      refine lv_aload_n hx hb dX8_discord_31 rfl (lv_at hl 0 rfl) ?_
      refine p_getR X hH fg_RX8_10 hf dX8_discord_32 (fun v9 _ hf => ?_)
      refine p_getR X hH fg_RX8_23 hf dX8_discord_35 (fun v10 _ hf => ?_)
      refine lv_aload_n hx hb dX8_discord_38 rfl (lv_at hl 0 rfl) ?_
      refine p_getR X hH fg_RX8_10 hf dX8_discord_39 (fun v11 _ hf => ?_)
      refine p_cVI (As := []) (b := v11) (rest := [.ref v10, .int v8, .int x1]) (ci := 8) X hH rfl hf (fun _ _ e_ => c_X7_entry l G v11 h _ _ e_) mv_X7_entry lk_RX8_157 (by decide) rfl hl.1 (Nat.le_of_ble_eq_true rfl) dX8_discord_42 (c2 := 0) (s2 := 0) (by decide) (fun v12 h H locs hH hf => ?_)
      refine p_iald X hH hf dX8_discord_45 (fun v13 _ hf => ?_)
      refine p_cSI (As := [.int v8, .int v13]) (rest := [.int x1]) X hH hf (fun _ _ e_ => c_X8_apart l G v8 v13 h _ _ e_) ms_X8_apart lk_RX8_92 (by decide) rfl hl.1 (Nat.le_of_ble_eq_true rfl) dX8_discord_46 (c2 := 0) (s2 := 0) (by decide) (fun v14 h H locs hH hf => ?_)
      refine p_abs X m_1108 m_273 m_39 m_274 hl.1 (by decide) (Nat.le_of_ble_eq_true rfl) (by decide) (by decide) dX8_discord_49 ?_
      refine lv_iadd hx hb dX8_discord_52 ?_
      refine lv_istore_n (lv' := [(1, .int (x1 + (abI v14))), (0, .ref x0), (2, .int x2)]) hx hb dX8_discord_53 rfl hl (by decide) rfl (fun ls hl => ?_)
      refine lv_iinc (v := (x2 + (1 : Int32))) (lv' := [(2, .int (x2 + (1 : Int32))), (1, .int (x1 + (abI v14))), (0, .ref x0)]) hx hb dX8_discord_54 hl (k := 2) rfl rfl (by decide) rfl (fun ls hl => ?_)
      refine lv_goto (tgt := 9) hx hb dX8_discord_57 (by decide) ?_
      exact ik9 x0 (x1 + (abI v14)) (x2 + (1 : Int32)) h H locs ls hH (lv_sub hl [2, 1, 0] rfl) hf
set_option maxRecDepth 100000 in
set_option maxHeartbeats 4000000 in
theorem c_X8_discord (l : Launch) (G : GE) (x0 : Nat) (h : PH) (rr : UInt64) (hh : PH) (hf : f_X8_discord G x0 h = some (rr, hh)) : Ct l yX8_discord cX8_discord 3 (some .double) rm_X8_discord G [.ref x0] h (some (.double rr)) hh := by
  refine Ct.of (plainFor_of_name (by decide)) (Nat.le_of_ble_eq_true rfl) ?_
  intro p e s m args below meth c ls X hH hl
  have hl : lv_has ls 3 [(0, .ref x0)] := hl
  have X : Cx G p s m args meth c cX8_discord 3 RX8 "discord" (some .double) := X
  have hx := X.1
  have hb := X.2.1
  unfold f_X8_discord at hf
  obtain ⟨H, hHe⟩ : ∃ z, z = s.heap := ⟨_, rfl⟩
  obtain ⟨locs, hLe⟩ : ∃ z, z = ([] : List Loc) := ⟨_, rfl⟩
  rw [← hHe, ← hLe] at hH
  rw [← hHe, ← hLe]
  refine lv_aload_n hx hb dX8_discord_0 rfl (lv_at hl 0 rfl) ?_
  refine lv_iconst (v := 0) hx hb dX8_discord_1 (by decide) ?_
  refine p_put X hH fp_RX8_19 rfl rfl hf dX8_discord_2 (fun h H locs hH hf => ?_)
  refine lv_iconst (v := 0) hx hb dX8_discord_5 (by decide) ?_
  refine lv_istore_n (lv' := [(1, .int (0 : Int32)), (0, .ref x0)]) hx hb dX8_discord_6 rfl hl (by decide) rfl (fun ls hl => ?_)
  refine lv_iconst (v := 0) hx hb dX8_discord_7 (by decide) ?_
  refine lv_istore_n (lv' := [(2, .int (0 : Int32)), (1, .int (0 : Int32)), (0, .ref x0)]) hx hb dX8_discord_8 rfl hl (by decide) rfl (fun ls hl => ?_)
  exact w_X8_discord_b9 l X LF x0 (0 : Int32) (0 : Int32) h H locs ls hH (lv_sub hl [2, 1, 0] rfl) hf
