/-! ===== walks (printed by program) ===== -/
set_option maxRecDepth 100000 in
set_option maxHeartbeats 4000000 in
theorem c_X0_init (l : Launch) (G : GE) (x0 : Nat) (x1 : Nat) (x2 : Int32) (h : PH) (rr : Unit) (hh : PH) (hf : f_X0_init G x0 x1 x2 h = some (rr, hh)) : Ct l yX0_init cX0_init 3 none rm_X0_init G [.ref x0, .ref x1, .int x2] h none hh := by
  refine Ct.of (plainFor_of_name (by decide)) (Nat.le_of_ble_eq_true rfl) ?_
  intro p e s m args below meth c ls X hH hl
  have hl : lv_has ls 3 [(0, .ref x0), (1, .ref x1), (2, .int x2)] := hl
  have X : Cx G p s m args meth c cX0_init 3 RX0 "<init>" none := X
  have hx := X.1
  have hb := X.2.1
  unfold f_X0_init at hf
  obtain ⟨H, hHe⟩ : ∃ z, z = s.heap := ⟨_, rfl⟩
  obtain ⟨locs, hLe⟩ : ∃ z, z = ([] : List Loc) := ⟨_, rfl⟩
  rw [← hHe, ← hLe] at hH
  rw [← hHe, ← hLe]
  refine lv_aload_n hx hb dX0_init_0 rfl (lv_at hl 0 rfl) ?_
  refine p_oinit X m_674 m_63 m_64 hl.1 dX0_init_1 (by decide) (Nat.le_of_ble_eq_true rfl) ?_
  refine lv_aload_n hx hb dX0_init_4 rfl (lv_at hl 0 rfl) ?_
  refine lv_aload_n hx hb dX0_init_5 rfl (lv_at hl 1 rfl) ?_
  refine p_put X hH fp_RX0_7 rfl rfl hf dX0_init_6 (fun h H locs hH hf => ?_)
  refine lv_aload_n hx hb dX0_init_9 rfl (lv_at hl 0 rfl) ?_
  refine lv_iload_n hx hb dX0_init_10 rfl (lv_at hl 2 rfl) ?_
  refine p_put X hH fp_RX0_13 rfl rfl hf dX0_init_11 (fun h H locs hH hf => ?_)
  exact p_vret X hH hf (by decide) (by decide) dX0_init_14
set_option maxRecDepth 100000 in
set_option maxHeartbeats 4000000 in
theorem c_X1_init (l : Launch) (G : GE) (x0 : Nat) (x1 : Int32) (x2 : Int32) (x3 : Int32) (x4 : Int32) (h : PH) (rr : Unit) (hh : PH) (hf : f_X1_init G x0 x1 x2 x3 x4 h = some (rr, hh)) : Ct l yX1_init cX1_init 5 none rm_X1_init G [.ref x0, .int x1, .int x2, .int x3, .int x4] h none hh := by
  refine Ct.of (plainFor_of_name (by decide)) (Nat.le_of_ble_eq_true rfl) ?_
  intro p e s m args below meth c ls X hH hl
  have hl : lv_has ls 5 [(0, .ref x0), (1, .int x1), (2, .int x2), (3, .int x3), (4, .int x4)] := hl
  have X : Cx G p s m args meth c cX1_init 5 RX1 "<init>" none := X
  have hx := X.1
  have hb := X.2.1
  unfold f_X1_init at hf
  obtain ⟨H, hHe⟩ : ∃ z, z = s.heap := ⟨_, rfl⟩
  obtain ⟨locs, hLe⟩ : ∃ z, z = ([] : List Loc) := ⟨_, rfl⟩
  rw [← hHe, ← hLe] at hH
  rw [← hHe, ← hLe]
  refine lv_aload_n hx hb dX1_init_0 rfl (lv_at hl 0 rfl) ?_
  refine p_oinit X m_501 m_63 m_64 hl.1 dX1_init_1 (by decide) (Nat.le_of_ble_eq_true rfl) ?_
  refine lv_aload_n hx hb dX1_init_4 rfl (lv_at hl 0 rfl) ?_
  refine lv_bipush (v := 8) hx hb dX1_init_5 (by decide) ?_
  refine p_newI X hH m_524 (N := 8) (by decide) rfl (by decide) (by decide) (by decide) hf dX1_init_7 (fun q1 h H hH hf => ?_)
  refine W.widen (k := 1) (n := 8) (by decide) (by decide) ?_
  refine p_put X hH fp_RX1_7 rfl rfl hf dX1_init_9 (fun h H locs hH hf => ?_)
  refine lv_aload_n hx hb dX1_init_12 rfl (lv_at hl 0 rfl) ?_
  refine lv_iload_n hx hb dX1_init_13 rfl (lv_at hl 1 rfl) ?_
  refine p_put X hH fp_RX1_13 rfl rfl hf dX1_init_14 (fun h H locs hH hf => ?_)
  refine lv_aload_n hx hb dX1_init_17 rfl (lv_at hl 0 rfl) ?_
  refine lv_iload_n hx hb dX1_init_18 rfl (lv_at hl 2 rfl) ?_
  refine p_put X hH fp_RX1_17 rfl rfl hf dX1_init_19 (fun h H locs hH hf => ?_)
  refine lv_aload_n hx hb dX1_init_22 rfl (lv_at hl 0 rfl) ?_
  refine lv_iload_n hx hb dX1_init_23 rfl (lv_at hl 3 rfl) ?_
  refine p_put X hH fp_RX1_20 rfl rfl hf dX1_init_24 (fun h H locs hH hf => ?_)
  refine lv_aload_n hx hb dX1_init_27 rfl (lv_at hl 0 rfl) ?_
  refine lv_iload hx hb dX1_init_28 (lv_at hl 4 rfl) ?_
  refine p_put X hH fp_RX1_23 rfl rfl hf dX1_init_30 (fun h H locs hH hf => ?_)
  exact p_vret X hH hf (by decide) (by decide) dX1_init_33
set_option maxRecDepth 100000 in
set_option maxHeartbeats 4000000 in
theorem w_X1_isInLine_b20 {G : GE} {p : Program} (l : Launch) {e : Env} {s : State} {m : MethodId} {args : Array Value} {below : List Frame} {meth : Method} {c : Code} {rr : Int32} {hh : PH} (X : Cx G p s m args meth c cX1_isInLine 4 RX1 "isInLine" (some .boolean))  (h : PH) (H : Heap) (locs : List Loc) (ls : Array Slot) (hH : Hx G s h H locs) (hl : lv_has ls 4 []) (hf : f_X1_isInLine_b20 G  h = some (rr, hh)) : W p l e rm_X1_isInLine s m args below meth c H locs 0 0 (Fq G (some (.int rr)) hh below args s rm_X1_isInLine.cells rm_X1_isInLine.slots) (F0 m 20 ls []) := by
  have hx := X.1
  have hb := X.2.1
  unfold f_X1_isInLine_b20 at hf
  refine lv_iconst (v := 0) hx hb dX1_isInLine_20 (by decide) ?_
  exact p_zret X hH hf (by decide) (by decide) dX1_isInLine_21
set_option maxRecDepth 100000 in
set_option maxHeartbeats 4000000 in
theorem w_X1_isInLine_b69 {G : GE} {p : Program} (l : Launch) {e : Env} {s : State} {m : MethodId} {args : Array Value} {below : List Frame} {meth : Method} {c : Code} {rr : Int32} {hh : PH} (X : Cx G p s m args meth c cX1_isInLine 4 RX1 "isInLine" (some .boolean)) (k24 : Nat → Nat → Int32 → Int32 → PH → Option (Int32 × PH)) (ik24 : ∀ (x0 : Nat) (x1 : Nat) (x2 : Int32) (x3 : Int32) (h : PH) (H : Heap) (locs : List Loc) (ls : Array Slot), Hx G s h H locs → lv_has ls 4 [(0, .ref x0), (1, .ref x1), (2, .int x2), (3, .int x3)] → k24 x0 x1 x2 x3 h = some (rr, hh) → W p l e rm_X1_isInLine s m args below meth c H locs 0 0 (Fq G (some (.int rr)) hh below args s rm_X1_isInLine.cells rm_X1_isInLine.slots) (F0 m 24 ls [])) (x0 : Nat) (x1 : Nat) (x2 : Int32) (x3 : Int32) (h : PH) (H : Heap) (locs : List Loc) (ls : Array Slot) (hH : Hx G s h H locs) (hl : lv_has ls 4 [(0, .ref x0), (1, .ref x1), (2, .int x2), (3, .int x3)]) (hf : f_X1_isInLine_b69 G k24 x0 x1 x2 x3 h = some (rr, hh)) : W p l e rm_X1_isInLine s m args below meth c H locs 0 0 (Fq G (some (.int rr)) hh below args s rm_X1_isInLine.cells rm_X1_isInLine.slots) (F0 m 69 ls []) := by
  have hx := X.1
  have hb := X.2.1
  unfold f_X1_isInLine_b69 at hf
  refine lv_iinc (v := (x3 + (1 : Int32))) (lv' := [(3, .int (x3 + (1 : Int32))), (0, .ref x0), (1, .ref x1), (2, .int x2)]) hx hb dX1_isInLine_69 hl (k := 3) rfl rfl (by decide) rfl (fun ls hl => ?_)
  refine lv_goto (tgt := 24) hx hb dX1_isInLine_72 (by decide) ?_
  exact ik24 x0 x1 x2 (x3 + (1 : Int32)) h H locs ls hH (lv_sub hl [1, 2, 3, 0] rfl) hf
set_option maxRecDepth 100000 in
set_option maxHeartbeats 4000000 in
theorem w_X1_isInLine_b24 {G : GE} {p : Program} (l : Launch) {e : Env} {s : State} {m : MethodId} {args : Array Value} {below : List Frame} {meth : Method} {c : Code} {rr : Int32} {hh : PH} (X : Cx G p s m args meth c cX1_isInLine 4 RX1 "isInLine" (some .boolean)) : ∀ (n : Nat) (x0 : Nat) (x1 : Nat) (x2 : Int32) (x3 : Int32) (h : PH) (H : Heap) (locs : List Loc) (ls : Array Slot) (hH : Hx G s h H locs) (hl : lv_has ls 4 [(0, .ref x0), (1, .ref x1), (2, .int x2), (3, .int x3)]) (hf : f_X1_isInLine_b24 G n x0 x1 x2 x3 h = some (rr, hh)), W p l e rm_X1_isInLine s m args below meth c H locs 0 0 (Fq G (some (.int rr)) hh below args s rm_X1_isInLine.cells rm_X1_isInLine.slots) (F0 m 24 ls []) := by
  have hx := X.1
  have hb := X.2.1
  intro n
  induction n with
  | zero =>
    intro x0 x1 x2 x3 h H locs ls hH hl hf
    have hf : (none : Option (Int32 × PH)) = some (rr, hh) := hf
    cases hf
  | succ n ih =>
    intro x0 x1 x2 x3 h H locs ls hH hl hf
    have hf : f_X1_isInLine_b24_body G (f_X1_isInLine_b24 G n) x0 x1 x2 x3 h = some (rr, hh) := hf
    generalize f_X1_isInLine_b24 G n = k24 at hf ih
    have ik24 := ih
    unfold f_X1_isInLine_b24_body at hf
    refine lv_iload_n hx hb dX1_isInLine_24 rfl (lv_at hl 3 rfl) ?_
    refine lv_iconst (v := 3) hx hb dX1_isInLine_25 (by decide) ?_
    refine p_icmp_gt X hf dX1_isInLine_26 (tgt := 75) (by decide) (fun _ hf => ?_) (fun _ hf => ?_)
    · refine lv_iconst (v := 0) hx hb dX1_isInLine_75 (by decide) ?_
      exact p_zret X hH hf (by decide) (by decide) dX1_isInLine_76
    · refine lv_aload_n hx hb dX1_isInLine_29 rfl (lv_at hl 1 rfl) ?_
      refine p_getI X hH fg_RX1_13 hf dX1_isInLine_30 (fun v1 _ hf => ?_)
      refine lv_aload_n hx hb dX1_isInLine_33 rfl (lv_at hl 0 rfl) ?_
      refine p_getI X hH fg_RX1_13 hf dX1_isInLine_34 (fun v2 _ hf => ?_)
      refine lv_iload_n hx hb dX1_isInLine_37 rfl (lv_at hl 3 rfl) ?_
      refine p_stat X hH X.2.2.2.2.2.1.2.1.1 m_537 dX1_isInLine_38 ?_
      refine lv_iload_n hx hb dX1_isInLine_41 rfl (lv_at hl 2 rfl) ?_
      refine p_ti X hH (g := csF) X.2.2.2.2.2.1.2.2.1.1 hf dX1_isInLine_42 (fun hf => ?_)
      refine lv_imul hx hb dX1_isInLine_43 ?_
      refine lv_iadd hx hb dX1_isInLine_44 ?_
      refine p_icmp_ne X hf dX1_isInLine_45 (tgt := 69) (by decide) (fun _ hf => ?_) (fun _ hf => ?_)
      · exact w_X1_isInLine_b69 l X k24 ik24 x0 x1 x2 x3 h H locs ls hH (lv_sub hl [0, 1, 2, 3] rfl) hf
      · refine lv_aload_n hx hb dX1_isInLine_48 rfl (lv_at hl 1 rfl) ?_
        refine p_getI X hH fg_RX1_17 hf dX1_isInLine_49 (fun v3 _ hf => ?_)
        refine lv_aload_n hx hb dX1_isInLine_52 rfl (lv_at hl 0 rfl) ?_
        refine p_getI X hH fg_RX1_17 hf dX1_isInLine_53 (fun v4 _ hf => ?_)
        refine lv_iload_n hx hb dX1_isInLine_56 rfl (lv_at hl 3 rfl) ?_
        refine p_stat X hH X.2.2.2.2.2.1.2.1.2.1 m_539 dX1_isInLine_57 ?_
        refine lv_iload_n hx hb dX1_isInLine_60 rfl (lv_at hl 2 rfl) ?_
        refine p_ti X hH (g := rsF) X.2.2.2.2.2.1.2.2.1.2.1 hf dX1_isInLine_61 (fun hf => ?_)
        refine lv_imul hx hb dX1_isInLine_62 ?_
        refine lv_iadd hx hb dX1_isInLine_63 ?_
        refine p_icmp_ne X hf dX1_isInLine_64 (tgt := 69) (by decide) (fun _ hf => ?_) (fun _ hf => ?_)
        · exact w_X1_isInLine_b69 l X k24 ik24 x0 x1 x2 x3 h H locs ls hH (lv_sub hl [0, 1, 2, 3] rfl) hf
        · refine lv_iconst (v := 1) hx hb dX1_isInLine_67 (by decide) ?_
          exact p_zret X hH hf (by decide) (by decide) dX1_isInLine_68
set_option maxRecDepth 100000 in
set_option maxHeartbeats 4000000 in
theorem c_X1_isInLine (l : Launch) (G : GE) (x0 : Nat) (x1 : Nat) (x2 : Int32) (h : PH) (rr : Int32) (hh : PH) (hf : f_X1_isInLine G x0 x1 x2 h = some (rr, hh)) : Ct l yX1_isInLine cX1_isInLine 4 (some .boolean) rm_X1_isInLine G [.ref x0, .ref x1, .int x2] h (some (.int rr)) hh := by
  refine Ct.of (plainFor_of_name (by decide)) (Nat.le_of_ble_eq_true rfl) ?_
  intro p e s m args below meth c ls X hH hl
  have hl : lv_has ls 4 [(0, .ref x0), (1, .ref x1), (2, .int x2)] := hl
  have X : Cx G p s m args meth c cX1_isInLine 4 RX1 "isInLine" (some .boolean) := X
  have hx := X.1
  have hb := X.2.1
  unfold f_X1_isInLine at hf
  obtain ⟨H, hHe⟩ : ∃ z, z = s.heap := ⟨_, rfl⟩
  obtain ⟨locs, hLe⟩ : ∃ z, z = ([] : List Loc) := ⟨_, rfl⟩
  rw [← hHe, ← hLe] at hH
  rw [← hHe, ← hLe]
  refine lv_iload_n hx hb dX1_isInLine_0 rfl (lv_at hl 2 rfl) ?_
  refine p_if_lt X hf dX1_isInLine_1 (tgt := 20) (by decide) (fun _ hf => ?_) (fun _ hf => ?_)
  · exact w_X1_isInLine_b20 l X  h H locs ls hH (lv_sub hl [] rfl) hf
  · refine lv_iload_n hx hb dX1_isInLine_4 rfl (lv_at hl 2 rfl) ?_
    refine p_stat X hH X.2.2.2.2.2.1.2.1.1 m_537 dX1_isInLine_5 ?_
    refine p_tlen X hH X.2.2.2.2.2.1.2.2.1.1 (v := 8) rfl dX1_isInLine_8 ?_
    refine p_icmp_ge X hf dX1_isInLine_9 (tgt := 20) (by decide) (fun _ hf => ?_) (fun _ hf => ?_)
    · exact w_X1_isInLine_b20 l X  h H locs ls hH (lv_sub hl [] rfl) hf
    · refine lv_iload_n hx hb dX1_isInLine_12 rfl (lv_at hl 2 rfl) ?_
      refine p_stat X hH X.2.2.2.2.2.1.2.1.2.1 m_539 dX1_isInLine_13 ?_
      refine p_tlen X hH X.2.2.2.2.2.1.2.2.1.2.1 (v := 8) rfl dX1_isInLine_16 ?_
      refine p_icmp_lt X hf dX1_isInLine_17 (tgt := 22) (by decide) (fun _ hf => ?_) (fun _ hf => ?_)
      · refine lv_iconst (v := 1) hx hb dX1_isInLine_22 (by decide) ?_
        refine lv_istore_n (lv' := [(3, .int (1 : Int32)), (0, .ref x0), (1, .ref x1), (2, .int x2)]) hx hb dX1_isInLine_23 rfl hl (by decide) rfl (fun ls hl => ?_)
        exact w_X1_isInLine_b24 l X LF x0 x1 x2 (1 : Int32) h H locs ls hH (lv_sub hl [1, 2, 3, 0] rfl) hf
      · exact w_X1_isInLine_b20 l X  h H locs ls hH (lv_sub hl [] rfl) hf
set_option maxRecDepth 100000 in
set_option maxHeartbeats 4000000 in
theorem w_X1_lookAt_b42 {G : GE} {p : Program} (l : Launch) {e : Env} {s : State} {m : MethodId} {args : Array Value} {below : List Frame} {meth : Method} {c : Code} {rr : Unit} {hh : PH} (X : Cx G p s m args meth c cX1_lookAt 3 RX1 "lookAt" none) (k14 : Nat → Nat → Int32 → PH → Option (Unit × PH)) (ik14 : ∀ (x0 : Nat) (x1 : Nat) (x2 : Int32) (h : PH) (H : Heap) (locs : List Loc) (ls : Array Slot), Hx G s h H locs → lv_has ls 3 [(0, .ref x0), (1, .ref x1), (2, .int x2)] → k14 x0 x1 x2 h = some (rr, hh) → W p l e rm_X1_lookAt s m args below meth c H locs 0 0 (Fq G none hh below args s rm_X1_lookAt.cells rm_X1_lookAt.slots) (F0 m 14 ls [])) (x0 : Nat) (x1 : Nat) (x2 : Int32) (h : PH) (H : Heap) (locs : List Loc) (ls : Array Slot) (hH : Hx G s h H locs) (hl : lv_has ls 3 [(0, .ref x0), (1, .ref x1), (2, .int x2)]) (hf : f_X1_lookAt_b42 G k14 x0 x1 x2 h = some (rr, hh)) : W p l e rm_X1_lookAt s m args below meth c H locs 0 0 (Fq G none hh below args s rm_X1_lookAt.cells rm_X1_lookAt.slots) (F0 m 42 ls []) := by
  have hx := X.1
  have hb := X.2.1
  unfold f_X1_lookAt_b42 at hf
  refine lv_iinc (v := (x2 + (1 : Int32))) (lv' := [(2, .int (x2 + (1 : Int32))), (0, .ref x0), (1, .ref x1)]) hx hb dX1_lookAt_42 hl (k := 2) rfl rfl (by decide) rfl (fun ls hl => ?_)
  refine lv_goto (tgt := 14) hx hb dX1_lookAt_45 (by decide) ?_
  exact ik14 x0 x1 (x2 + (1 : Int32)) h H locs ls hH (lv_sub hl [1, 2, 0] rfl) hf
set_option maxRecDepth 100000 in
set_option maxHeartbeats 4000000 in
theorem w_X1_lookAt_b14 {G : GE} {p : Program} (l : Launch) {e : Env} {s : State} {m : MethodId} {args : Array Value} {below : List Frame} {meth : Method} {c : Code} {rr : Unit} {hh : PH} (X : Cx G p s m args meth c cX1_lookAt 3 RX1 "lookAt" none) : ∀ (n : Nat) (x0 : Nat) (x1 : Nat) (x2 : Int32) (h : PH) (H : Heap) (locs : List Loc) (ls : Array Slot) (hH : Hx G s h H locs) (hl : lv_has ls 3 [(0, .ref x0), (1, .ref x1), (2, .int x2)]) (hf : f_X1_lookAt_b14 G n x0 x1 x2 h = some (rr, hh)), W p l e rm_X1_lookAt s m args below meth c H locs 0 0 (Fq G none hh below args s rm_X1_lookAt.cells rm_X1_lookAt.slots) (F0 m 14 ls []) := by
  have hx := X.1
  have hb := X.2.1
  intro n
  induction n with
  | zero =>
    intro x0 x1 x2 h H locs ls hH hl hf
    have hf : (none : Option (Unit × PH)) = some (rr, hh) := hf
    cases hf
  | succ n ih =>
    intro x0 x1 x2 h H locs ls hH hl hf
    have hf : f_X1_lookAt_b14_body G (f_X1_lookAt_b14 G n) x0 x1 x2 h = some (rr, hh) := hf
    generalize f_X1_lookAt_b14 G n = k14 at hf ih
    have ik14 := ih
    unfold f_X1_lookAt_b14_body at hf
    refine lv_iload_n hx hb dX1_lookAt_14 rfl (lv_at hl 2 rfl) ?_
    refine lv_aload_n hx hb dX1_lookAt_15 rfl (lv_at hl 0 rfl) ?_
    refine p_getR X hH fg_RX1_7 hf dX1_lookAt_16 (fun v3 _ hf => ?_)
    refine p_alen X hH hf dX1_lookAt_19 (fun v4 _ hf => ?_)
    refine p_icmp_ge X hf dX1_lookAt_20 (tgt := 48) (by decide) (fun _ hf => ?_) (fun _ hf => ?_)
    · exact p_vret X hH hf (by decide) (by decide) dX1_lookAt_48
    · refine lv_aload_n hx hb dX1_lookAt_23 rfl (lv_at hl 0 rfl) ?_
      refine lv_aload_n hx hb dX1_lookAt_24 rfl (lv_at hl 1 rfl) ?_
      refine lv_iload_n hx hb dX1_lookAt_25 rfl (lv_at hl 2 rfl) ?_
      refine p_cVI (As := [.ref x1, .int x2]) (b := x0) (rest := []) (ci := 2) X hH rfl hf (fun _ _ e_ => c_X1_isInLine l G x0 x1 x2 h _ _ e_) mv_X1_isInLine lk_RX1_26 (by decide) rfl hl.1 (Nat.le_of_ble_eq_true rfl) dX1_lookAt_26 (c2 := 0) (s2 := 0) (by decide) (fun v5 h H locs hH hf => ?_)
      refine p_if_eq X hf dX1_lookAt_29 (tgt := 42) (by decide) (fun _ hf => ?_) (fun _ hf => ?_)
      · exact w_X1_lookAt_b42 l X k14 ik14 x0 x1 x2 h H locs ls hH (lv_sub hl [0, 1, 2] rfl) hf
      · refine lv_aload_n hx hb dX1_lookAt_32 rfl (lv_at hl 0 rfl) ?_
        refine p_getR X hH fg_RX1_7 hf dX1_lookAt_33 (fun v6 _ hf => ?_)
        refine lv_iload_n hx hb dX1_lookAt_36 rfl (lv_at hl 2 rfl) ?_
        refine lv_dup2_11 hx hb dX1_lookAt_37 rfl rfl ?_
        refine p_iald X hH hf dX1_lookAt_38 (fun v7 _ hf => ?_)
        refine lv_iconst (v := 1) hx hb dX1_lookAt_39 (by decide) ?_
        refine lv_iadd hx hb dX1_lookAt_40 ?_
        refine p_iast X hH hf dX1_lookAt_41 (fun h H locs hH hf => ?_)
        exact w_X1_lookAt_b42 l X k14 ik14 x0 x1 x2 h H locs ls hH (lv_sub hl [0, 1, 2] rfl) hf
set_option maxRecDepth 100000 in
set_option maxHeartbeats 4000000 in
theorem c_X1_lookAt (l : Launch) (G : GE) (x0 : Nat) (x1 : Nat) (h : PH) (rr : Unit) (hh : PH) (hf : f_X1_lookAt G x0 x1 h = some (rr, hh)) : Ct l yX1_lookAt cX1_lookAt 3 none rm_X1_lookAt G [.ref x0, .ref x1] h none hh := by
  refine Ct.of (plainFor_of_name (by decide)) (Nat.le_of_ble_eq_true rfl) ?_
  intro p e s m args below meth c ls X hH hl
  have hl : lv_has ls 3 [(0, .ref x0), (1, .ref x1)] := hl
  have X : Cx G p s m args meth c cX1_lookAt 3 RX1 "lookAt" none := X
  have hx := X.1
  have hb := X.2.1
  unfold f_X1_lookAt at hf
  obtain ⟨H, hHe⟩ : ∃ z, z = s.heap := ⟨_, rfl⟩
  obtain ⟨locs, hLe⟩ : ∃ z, z = ([] : List Loc) := ⟨_, rfl⟩
  rw [← hHe, ← hLe] at hH
  rw [← hHe, ← hLe]
  refine lv_aload_n hx hb dX1_lookAt_0 rfl (lv_at hl 1 rfl) ?_
  refine p_getI X hH fg_RX1_20 hf dX1_lookAt_1 (fun v1 _ hf => ?_)
  refine lv_aload_n hx hb dX1_lookAt_4 rfl (lv_at hl 0 rfl) ?_
  refine p_getI X hH fg_RX1_20 hf dX1_lookAt_5 (fun v2 _ hf => ?_)
  refine p_icmp_gt X hf dX1_lookAt_8 (tgt := 12) (by decide) (fun _ hf => ?_) (fun _ hf => ?_)
  · refine lv_iconst (v := 0) hx hb dX1_lookAt_12 (by decide) ?_
    refine lv_istore_n (lv' := [(2, .int (0 : Int32)), (0, .ref x0), (1, .ref x1)]) hx hb dX1_lookAt_13 rfl hl (by decide) rfl (fun ls hl => ?_)
    exact w_X1_lookAt_b14 l X LF x0 x1 (0 : Int32) h H locs ls hH (lv_sub hl [1, 2, 0] rfl) hf
  · exact p_vret X hH hf (by decide) (by decide) dX1_lookAt_11
set_option maxRecDepth 100000 in
set_option maxHeartbeats 4000000 in
theorem w_X1_leeOf_b28 {G : GE} {p : Program} (l : Launch) {e : Env} {s : State} {m : MethodId} {args : Array Value} {below : List Frame} {meth : Method} {c : Code} {rr : Int32} {hh : PH} (X : Cx G p s m args meth c cX1_leeOf 3 RX1 "leeOf" (some .int)) (t0 : Int32) (h : PH) (H : Heap) (locs : List Loc) (ls : Array Slot) (hH : Hx G s h H locs) (hl : lv_has ls 3 []) (hf : f_X1_leeOf_b28 G t0 h = some (rr, hh)) : W p l e rm_X1_leeOf s m args below meth c H locs 0 0 (Fq G (some (.int rr)) hh below args s rm_X1_leeOf.cells rm_X1_leeOf.slots) (F0 m 28 ls [.int t0]) := by
  have hx := X.1
  have hb := X.2.1
  unfold f_X1_leeOf_b28 at hf
  exact p_iret X hH hf (by decide) (by decide) dX1_leeOf_28
set_option maxRecDepth 100000 in
set_option maxHeartbeats 4000000 in
theorem w_X1_leeOf_b27 {G : GE} {p : Program} (l : Launch) {e : Env} {s : State} {m : MethodId} {args : Array Value} {below : List Frame} {meth : Method} {c : Code} {rr : Int32} {hh : PH} (X : Cx G p s m args meth c cX1_leeOf 3 RX1 "leeOf" (some .int))  (h : PH) (H : Heap) (locs : List Loc) (ls : Array Slot) (hH : Hx G s h H locs) (hl : lv_has ls 3 []) (hf : f_X1_leeOf_b27 G  h = some (rr, hh)) : W p l e rm_X1_leeOf s m args below meth c H locs 0 0 (Fq G (some (.int rr)) hh below args s rm_X1_leeOf.cells rm_X1_leeOf.slots) (F0 m 27 ls []) := by
  have hx := X.1
  have hb := X.2.1
  unfold f_X1_leeOf_b27 at hf
  refine lv_iconst (v := 0) hx hb dX1_leeOf_27 (by decide) ?_
  exact w_X1_leeOf_b28 l X (0 : Int32) h H locs ls hH (lv_sub hl [] rfl) hf
set_option maxRecDepth 100000 in
set_option maxHeartbeats 4000000 in
theorem c_X1_leeOf (l : Launch) (G : GE) (x0 : Nat) (x1 : Nat) (h : PH) (rr : Int32) (hh : PH) (hf : f_X1_leeOf G x0 x1 h = some (rr, hh)) : Ct l yX1_leeOf cX1_leeOf 3 (some .int) rm_X1_leeOf G [.ref x0, .ref x1] h (some (.int rr)) hh := by
  refine Ct.of (plainFor_of_name (by decide)) (Nat.le_of_ble_eq_true rfl) ?_
  intro p e s m args below meth c ls X hH hl
  have hl : lv_has ls 3 [(0, .ref x0), (1, .ref x1)] := hl
  have X : Cx G p s m args meth c cX1_leeOf 3 RX1 "leeOf" (some .int) := X
  have hx := X.1
  have hb := X.2.1
  unfold f_X1_leeOf at hf
  obtain ⟨H, hHe⟩ : ∃ z, z = s.heap := ⟨_, rfl⟩
  obtain ⟨locs, hLe⟩ : ∃ z, z = ([] : List Loc) := ⟨_, rfl⟩
  rw [← hHe, ← hLe] at hH
  rw [← hHe, ← hLe]
  refine lv_aload_n hx hb dX1_leeOf_0 rfl (lv_at hl 1 rfl) ?_
  refine p_getI X hH fg_RX1_36 hf dX1_leeOf_1 (fun v1 _ hf => ?_)
  refine lv_istore_n (lv' := [(2, .int v1), (0, .ref x0), (1, .ref x1)]) hx hb dX1_leeOf_4 rfl hl (by decide) rfl (fun ls hl => ?_)
  refine lv_iload_n hx hb dX1_leeOf_5 rfl (lv_at hl 0 rfl) ?_
  refine p_if_lt X hf dX1_leeOf_6 (tgt := 27) (by decide) (fun _ hf => ?_) (fun _ hf => ?_)
  · exact w_X1_leeOf_b27 l X  h H locs ls hH (lv_sub hl [] rfl) hf
  · refine lv_iload_n hx hb dX1_leeOf_9 rfl (lv_at hl 0 rfl) ?_
    refine lv_aload_n hx hb dX1_leeOf_10 rfl (lv_at hl 1 rfl) ?_
    refine p_getR X hH fg_RX1_7 hf dX1_leeOf_11 (fun v2 _ hf => ?_)
    refine p_alen X hH hf dX1_leeOf_14 (fun v3 _ hf => ?_)
    refine p_icmp_ge X hf dX1_leeOf_15 (tgt := 27) (by decide) (fun _ hf => ?_) (fun _ hf => ?_)
    · exact w_X1_leeOf_b27 l X  h H locs ls hH (lv_sub hl [] rfl) hf
    · refine lv_aload_n hx hb dX1_leeOf_18 rfl (lv_at hl 1 rfl) ?_
      refine p_getR X hH fg_RX1_7 hf dX1_leeOf_19 (fun v4 _ hf => ?_)
      refine lv_iload_n hx hb dX1_leeOf_22 rfl (lv_at hl 0 rfl) ?_
      refine p_iald X hH hf dX1_leeOf_23 (fun v5 _ hf => ?_)
      refine lv_goto (tgt := 28) hx hb dX1_leeOf_24 (by decide) ?_
      exact w_X1_leeOf_b28 l X v5 h H locs ls hH (lv_sub hl [] rfl) hf
set_option maxRecDepth 100000 in
set_option maxHeartbeats 4000000 in
theorem c_X2_init (l : Launch) (G : GE) (x0 : Nat) (x1 : Int32) (x2 : Int32) (x3 : Int32) (x4 : Int32) (x5 : Int32) (h : PH) (rr : Unit) (hh : PH) (hf : f_X2_init G x0 x1 x2 x3 x4 x5 h = some (rr, hh)) : Ct l yX2_init cX2_init 6 none rm_X2_init G [.ref x0, .int x1, .int x2, .int x3, .int x4, .int x5] h none hh := by
  refine Ct.of (plainFor_of_name (by decide)) (Nat.le_of_ble_eq_true rfl) ?_
  intro p e s m args below meth c ls X hH hl
  have hl : lv_has ls 6 [(0, .ref x0), (1, .int x1), (2, .int x2), (3, .int x3), (4, .int x4), (5, .int x5)] := hl
  have X : Cx G p s m args meth c cX2_init 6 RX2 "<init>" none := X
  have hx := X.1
  have hb := X.2.1
  unfold f_X2_init at hf
  obtain ⟨H, hHe⟩ : ∃ z, z = s.heap := ⟨_, rfl⟩
  obtain ⟨locs, hLe⟩ : ∃ z, z = ([] : List Loc) := ⟨_, rfl⟩
  rw [← hHe, ← hLe] at hH
  rw [← hHe, ← hLe]
  refine lv_aload_n hx hb dX2_init_0 rfl (lv_at hl 0 rfl) ?_
  refine p_oinit X m_630 m_63 m_64 hl.1 dX2_init_1 (by decide) (Nat.le_of_ble_eq_true rfl) ?_
  refine lv_aload_n hx hb dX2_init_4 rfl (lv_at hl 0 rfl) ?_
  refine lv_iload_n hx hb dX2_init_5 rfl (lv_at hl 1 rfl) ?_
  refine p_put X hH fp_RX2_9 rfl rfl hf dX2_init_6 (fun h H locs hH hf => ?_)
  refine lv_aload_n hx hb dX2_init_9 rfl (lv_at hl 0 rfl) ?_
  refine lv_iload_n hx hb dX2_init_10 rfl (lv_at hl 2 rfl) ?_
  refine p_put X hH fp_RX2_15 rfl rfl hf dX2_init_11 (fun h H locs hH hf => ?_)
  refine lv_aload_n hx hb dX2_init_14 rfl (lv_at hl 0 rfl) ?_
  refine lv_iload_n hx hb dX2_init_15 rfl (lv_at hl 3 rfl) ?_
  refine p_put X hH fp_RX2_18 rfl rfl hf dX2_init_16 (fun h H locs hH hf => ?_)
  refine lv_aload_n hx hb dX2_init_19 rfl (lv_at hl 0 rfl) ?_
  refine lv_iload hx hb dX2_init_20 (lv_at hl 4 rfl) ?_
  refine p_put X hH fp_RX2_21 rfl rfl hf dX2_init_22 (fun h H locs hH hf => ?_)
  refine lv_aload_n hx hb dX2_init_25 rfl (lv_at hl 0 rfl) ?_
  refine lv_iload hx hb dX2_init_26 (lv_at hl 5 rfl) ?_
  refine p_put X hH fp_RX2_24 rfl rfl hf dX2_init_28 (fun h H locs hH hf => ?_)
  exact p_vret X hH hf (by decide) (by decide) dX2_init_31
set_option maxRecDepth 100000 in
set_option maxHeartbeats 4000000 in
theorem c_Jx4a65c_size_8abf5 (l : Launch) (G : GE) (x0 : Nat) (h : PH) (rr : Int32) (hh : PH) (hf : f_Jx4a65c_size_8abf5 G x0 h = some (rr, hh)) : Ct l yJx4a65c_size_8abf5 cJx4a65c_size_8abf5 1 (some .int) rm_Jx4a65c_size_8abf5 G [.ref x0] h (some (.int rr)) hh := by
  refine Ct.of (plainFor_of_name (by decide)) (Nat.le_of_ble_eq_true rfl) ?_
  intro p e s m args below meth c ls X hH hl
  have hl : lv_has ls 1 [(0, .ref x0)] := hl
  have X : Cx G p s m args meth c cJx4a65c_size_8abf5 1 RJx4a65c "size" (some .int) := X
  have hx := X.1
  have hb := X.2.1
  unfold f_Jx4a65c_size_8abf5 at hf
  obtain ⟨H, hHe⟩ : ∃ z, z = s.heap := ⟨_, rfl⟩
  obtain ⟨locs, hLe⟩ : ∃ z, z = ([] : List Loc) := ⟨_, rfl⟩
  rw [← hHe, ← hLe] at hH
  rw [← hHe, ← hLe]
  refine lv_aload_n hx hb dJx4a65c_size_8abf5_0 rfl (lv_at hl 0 rfl) ?_
  refine p_getI X hH fg_RJx4a65c_48 hf dJx4a65c_size_8abf5_1 (fun v1 _ hf => ?_)
  exact p_iret X hH hf (by decide) (by decide) dJx4a65c_size_8abf5_4
set_option maxRecDepth 100000 in
set_option maxHeartbeats 4000000 in
theorem w_J3_checkIndex_8e157_b9 {G : GE} {p : Program} (l : Launch) {e : Env} {s : State} {m : MethodId} {args : Array Value} {below : List Frame} {meth : Method} {c : Code} {rr : Int32} {hh : PH} (X : Cx G p s m args meth c cJ3_checkIndex_8e157 3 RJ3 "checkIndex" (some .int)) (x0 : Int32) (x1 : Int32) (h : PH) (H : Heap) (locs : List Loc) (ls : Array Slot) (hH : Hx G s h H locs) (hl : lv_has ls 3 [(0, .int x0), (1, .int x1), (2, .null)]) (hf : f_J3_checkIndex_8e157_b9 G x0 x1 h = some (rr, hh)) : W p l e rm_J3_checkIndex_8e157 s m args below meth c H locs 0 0 (Fq G (some (.int rr)) hh below args s rm_J3_checkIndex_8e157.cells rm_J3_checkIndex_8e157.slots) (F0 m 9 ls []) := by
  have hx := X.1
  have hb := X.2.1
  unfold f_J3_checkIndex_8e157_b9 at hf
  cases hf
set_option maxRecDepth 100000 in
set_option maxHeartbeats 4000000 in
theorem c_J3_checkIndex_8e157 (l : Launch) (G : GE) (x0 : Int32) (x1 : Int32) (h : PH) (rr : Int32) (hh : PH) (hf : f_J3_checkIndex_8e157 G x0 x1 h = some (rr, hh)) : Ct l yJ3_checkIndex_8e157 cJ3_checkIndex_8e157 3 (some .int) rm_J3_checkIndex_8e157 G [.int x0, .int x1, .null] h (some (.int rr)) hh := by
  refine Ct.of (plainFor_of_name (by decide)) (Nat.le_of_ble_eq_true rfl) ?_
  intro p e s m args below meth c ls X hH hl
  have hl : lv_has ls 3 [(0, .int x0), (1, .int x1), (2, .null)] := hl
  have X : Cx G p s m args meth c cJ3_checkIndex_8e157 3 RJ3 "checkIndex" (some .int) := X
  have hx := X.1
  have hb := X.2.1
  unfold f_J3_checkIndex_8e157 at hf
  obtain ⟨H, hHe⟩ : ∃ z, z = s.heap := ⟨_, rfl⟩
  obtain ⟨locs, hLe⟩ : ∃ z, z = ([] : List Loc) := ⟨_, rfl⟩
  rw [← hHe, ← hLe] at hH
  rw [← hHe, ← hLe]
  refine lv_iload_n hx hb dJ3_checkIndex_8e157_0 rfl (lv_at hl 0 rfl) ?_
  refine p_if_lt X hf dJ3_checkIndex_8e157_1 (tgt := 9) (by decide) (fun _ hf => ?_) (fun _ hf => ?_)
  · exact w_J3_checkIndex_8e157_b9 l X x0 x1 h H locs ls hH (lv_sub hl [0, 1, 2] rfl) hf
  · refine lv_iload_n hx hb dJ3_checkIndex_8e157_4 rfl (lv_at hl 0 rfl) ?_
    refine lv_iload_n hx hb dJ3_checkIndex_8e157_5 rfl (lv_at hl 1 rfl) ?_
    refine p_icmp_lt X hf dJ3_checkIndex_8e157_6 (tgt := 16) (by decide) (fun _ hf => ?_) (fun _ hf => ?_)
    · refine lv_iload_n hx hb dJ3_checkIndex_8e157_16 rfl (lv_at hl 0 rfl) ?_
      exact p_iret X hH hf (by decide) (by decide) dJ3_checkIndex_8e157_17
    · exact w_J3_checkIndex_8e157_b9 l X x0 x1 h H locs ls hH (lv_sub hl [0, 1, 2] rfl) hf
set_option maxRecDepth 100000 in
set_option maxHeartbeats 4000000 in
theorem c_J15_checkIndex_7cf53 (l : Launch) (G : GE) (x0 : Int32) (x1 : Int32) (h : PH) (rr : Int32) (hh : PH) (hf : f_J15_checkIndex_7cf53 G x0 x1 h = some (rr, hh)) : Ct l yJ15_checkIndex_7cf53 cJ15_checkIndex_7cf53 2 (some .int) rm_J15_checkIndex_7cf53 G [.int x0, .int x1] h (some (.int rr)) hh := by
  refine Ct.of (plainFor_of_name (by decide)) (Nat.le_of_ble_eq_true rfl) ?_
  intro p e s m args below meth c ls X hH hl
  have hl : lv_has ls 2 [(0, .int x0), (1, .int x1)] := hl
  have X : Cx G p s m args meth c cJ15_checkIndex_7cf53 2 RJ15 "checkIndex" (some .int) := X
  have hx := X.1
  have hb := X.2.1
  unfold f_J15_checkIndex_7cf53 at hf
  obtain ⟨H, hHe⟩ : ∃ z, z = s.heap := ⟨_, rfl⟩
  obtain ⟨locs, hLe⟩ : ∃ z, z = ([] : List Loc) := ⟨_, rfl⟩
  rw [← hHe, ← hLe] at hH
  rw [← hHe, ← hLe]
  refine lv_iload_n hx hb dJ15_checkIndex_7cf53_0 rfl (lv_at hl 0 rfl) ?_
  refine lv_iload_n hx hb dJ15_checkIndex_7cf53_1 rfl (lv_at hl 1 rfl) ?_
  refine lv_null hx hb dJ15_checkIndex_7cf53_2 ?_
  refine p_cSI (As := [.int x0, .int x1, .null]) (rest := []) X hH hf (fun _ _ e_ => c_J3_checkIndex_8e157 l G x0 x1 h _ _ e_) ms_J3_checkIndex_8e157 lk_RJ15_105 (by decide) rfl hl.1 (Nat.le_of_ble_eq_true rfl) dJ15_checkIndex_7cf53_3 (c2 := 0) (s2 := 0) (by decide) (fun v1 h H locs hH hf => ?_)
  exact p_iret X hH hf (by decide) (by decide) dJ15_checkIndex_7cf53_6
set_option maxRecDepth 100000 in
set_option maxHeartbeats 4000000 in
theorem c_Jx4a65c_elementData_915e3 (l : Launch) (G : GE) (x0 : Nat) (x1 : Int32) (h : PH) (rr : Nat) (hh : PH) (hf : f_Jx4a65c_elementData_915e3 G x0 x1 h = some (rr, hh)) : Ct l yJx4a65c_elementData_915e3 cJx4a65c_elementData_915e3 2 (some (.object "java/lang/Object")) rm_Jx4a65c_elementData_915e3 G [.ref x0, .int x1] h (some (.ref rr)) hh := by
  refine Ct.of (plainFor_of_name (by decide)) (Nat.le_of_ble_eq_true rfl) ?_
  intro p e s m args below meth c ls X hH hl
  have hl : lv_has ls 2 [(0, .ref x0), (1, .int x1)] := hl
  have X : Cx G p s m args meth c cJx4a65c_elementData_915e3 2 RJx4a65c "elementData" (some (.object "java/lang/Object")) := X
  have hx := X.1
  have hb := X.2.1
  unfold f_Jx4a65c_elementData_915e3 at hf
  obtain ⟨H, hHe⟩ : ∃ z, z = s.heap := ⟨_, rfl⟩
  obtain ⟨locs, hLe⟩ : ∃ z, z = ([] : List Loc) := ⟨_, rfl⟩
  rw [← hHe, ← hLe] at hH
  rw [← hHe, ← hLe]
  refine lv_aload_n hx hb dJx4a65c_elementData_915e3_0 rfl (lv_at hl 0 rfl) ?_
  refine p_getR X hH fg_RJx4a65c_9 hf dJx4a65c_elementData_915e3_1 (fun v1 _ hf => ?_)
  refine lv_iload_n hx hb dJx4a65c_elementData_915e3_4 rfl (lv_at hl 1 rfl) ?_
  refine p_aald X hH hf dJx4a65c_elementData_915e3_5 (fun v2 _ hf => ?_)
  exact p_aret X (by first | exact Or.inl ⟨_, rfl⟩ | exact Or.inr ⟨_, rfl⟩) hH hf (by decide) (by decide) dJx4a65c_elementData_915e3_6
set_option maxRecDepth 100000 in
set_option maxHeartbeats 4000000 in
theorem c_Jx4a65c_get_915e3 (l : Launch) (G : GE) (x0 : Nat) (x1 : Int32) (h : PH) (rr : Nat) (hh : PH) (hf : f_Jx4a65c_get_915e3 G x0 x1 h = some (rr, hh)) : Ct l yJx4a65c_get_915e3 cJx4a65c_get_915e3 2 (some (.object "java/lang/Object")) rm_Jx4a65c_get_915e3 G [.ref x0, .int x1] h (some (.ref rr)) hh := by
  refine Ct.of (plainFor_of_name (by decide)) (Nat.le_of_ble_eq_true rfl) ?_
  intro p e s m args below meth c ls X hH hl
  have hl : lv_has ls 2 [(0, .ref x0), (1, .int x1)] := hl
  have X : Cx G p s m args meth c cJx4a65c_get_915e3 2 RJx4a65c "get" (some (.object "java/lang/Object")) := X
  have hx := X.1
  have hb := X.2.1
  unfold f_Jx4a65c_get_915e3 at hf
  obtain ⟨H, hHe⟩ : ∃ z, z = s.heap := ⟨_, rfl⟩
  obtain ⟨locs, hLe⟩ : ∃ z, z = ([] : List Loc) := ⟨_, rfl⟩
  rw [← hHe, ← hLe] at hH
  rw [← hHe, ← hLe]
  refine lv_iload_n hx hb dJx4a65c_get_915e3_0 rfl (lv_at hl 1 rfl) ?_
  refine lv_aload_n hx hb dJx4a65c_get_915e3_1 rfl (lv_at hl 0 rfl) ?_
  refine p_getI X hH fg_RJx4a65c_48 hf dJx4a65c_get_915e3_2 (fun v1 _ hf => ?_)
  refine p_cSI (As := [.int x1, .int v1]) (rest := []) X hH hf (fun _ _ e_ => c_J15_checkIndex_7cf53 l G x1 v1 h _ _ e_) ms_J15_checkIndex_7cf53 lk_RJx4a65c_118 (by decide) rfl hl.1 (Nat.le_of_ble_eq_true rfl) dJx4a65c_get_915e3_5 (c2 := 0) (s2 := 0) (by decide) (fun v2 h H locs hH hf => ?_)
  refine lv_pop hx hb dJx4a65c_get_915e3_8 rfl ?_
  refine lv_aload_n hx hb dJx4a65c_get_915e3_9 rfl (lv_at hl 0 rfl) ?_
  refine lv_iload_n hx hb dJx4a65c_get_915e3_10 rfl (lv_at hl 1 rfl) ?_
  refine p_cVR (As := [.int x1]) (b := x0) (rest := []) (ci := 0) X hH rfl hf (fun _ _ e_ => c_Jx4a65c_elementData_915e3 l G x0 x1 h _ _ e_) mv_Jx4a65c_elementData_915e3 lk_RJx4a65c_123 (by decide) rfl hl.1 (Nat.le_of_ble_eq_true rfl) dJx4a65c_get_915e3_11 (c2 := 0) (s2 := 0) (by decide) (fun v3 h H locs hH hf => ?_)
  exact p_aret X (by first | exact Or.inl ⟨_, rfl⟩ | exact Or.inr ⟨_, rfl⟩) hH hf (by decide) (by decide) dJx4a65c_get_915e3_14
set_option maxRecDepth 100000 in
set_option maxHeartbeats 4000000 in
theorem c_X6_steps (l : Launch) (G : GE) (x0 : Int32) (x1 : Int32) (h : PH) (rr : Int32) (hh : PH) (hf : f_X6_steps G x0 x1 h = some (rr, hh)) : Ct l yX6_steps cX6_steps 2 (some .int) rm_X6_steps G [.int x0, .int x1] h (some (.int rr)) hh := by
  refine Ct.of (plainFor_of_name (by decide)) (Nat.le_of_ble_eq_true rfl) ?_
  intro p e s m args below meth c ls X hH hl
  have hl : lv_has ls 2 [(0, .int x0), (1, .int x1)] := hl
  have X : Cx G p s m args meth c cX6_steps 2 RX6 "steps" (some .int) := X
  have hx := X.1
  have hb := X.2.1
  unfold f_X6_steps at hf
  obtain ⟨H, hHe⟩ : ∃ z, z = s.heap := ⟨_, rfl⟩
  obtain ⟨locs, hLe⟩ : ∃ z, z = ([] : List Loc) := ⟨_, rfl⟩
  rw [← hHe, ← hLe] at hH
  rw [← hHe, ← hLe]
  refine lv_iload_n hx hb dX6_steps_0 rfl (lv_at hl 1 rfl) ?_
  refine lv_iload_n hx hb dX6_steps_1 rfl (lv_at hl 0 rfl) ?_
  refine lv_isub hx hb dX6_steps_2 ?_
  refine lv_bipush (v := 7) hx hb dX6_steps_3 (by decide) ?_
  refine lv_iadd hx hb dX6_steps_5 ?_
  refine lv_bipush (v := 16) hx hb dX6_steps_6 (by decide) ?_
  refine lv_iadd hx hb dX6_steps_8 ?_
  refine lv_bipush (v := 16) hx hb dX6_steps_9 (by decide) ?_
  refine lv_irem hx hb dX6_steps_11 (by decide) ?_
  refine lv_bipush (v := 7) hx hb dX6_steps_12 (by decide) ?_
  refine lv_isub hx hb dX6_steps_14 ?_
  exact p_iret X hH hf (by decide) (by decide) dX6_steps_15
set_option maxRecDepth 100000 in
set_option maxHeartbeats 4000000 in
theorem c_X6_distance (l : Launch) (G : GE) (x0 : Int32) (x1 : Int32) (h : PH) (rr : Int32) (hh : PH) (hf : f_X6_distance G x0 x1 h = some (rr, hh)) : Ct l yX6_distance cX6_distance 2 (some .int) rm_X6_distance G [.int x0, .int x1] h (some (.int rr)) hh := by
  refine Ct.of (plainFor_of_name (by decide)) (Nat.le_of_ble_eq_true rfl) ?_
  intro p e s m args below meth c ls X hH hl
  have hl : lv_has ls 2 [(0, .int x0), (1, .int x1)] := hl
  have X : Cx G p s m args meth c cX6_distance 2 RX6 "distance" (some .int) := X
  have hx := X.1
  have hb := X.2.1
  unfold f_X6_distance at hf
  obtain ⟨H, hHe⟩ : ∃ z, z = s.heap := ⟨_, rfl⟩
  obtain ⟨locs, hLe⟩ : ∃ z, z = ([] : List Loc) := ⟨_, rfl⟩
  rw [← hHe, ← hLe] at hH
  rw [← hHe, ← hLe]
  refine lv_iload_n hx hb dX6_distance_0 rfl (lv_at hl 0 rfl) ?_
  refine lv_iload_n hx hb dX6_distance_1 rfl (lv_at hl 1 rfl) ?_
  refine p_cSI (As := [.int x0, .int x1]) (rest := []) X hH hf (fun _ _ e_ => c_X6_steps l G x0 x1 h _ _ e_) ms_X6_steps lk_RX6_151 (by decide) rfl hl.1 (Nat.le_of_ble_eq_true rfl) dX6_distance_2 (c2 := 0) (s2 := 0) (by decide) (fun v1 h H locs hH hf => ?_)
  refine p_abs X m_272 m_273 m_39 m_274 hl.1 (by decide) (Nat.le_of_ble_eq_true rfl) (by decide) (by decide) dX6_distance_5 ?_
  exact p_iret X hH hf (by decide) (by decide) dX6_distance_8
set_option maxRecDepth 100000 in
set_option maxHeartbeats 4000000 in
theorem w_X2_sideOf_b40 {G : GE} {p : Program} (l : Launch) {e : Env} {s : State} {m : MethodId} {args : Array Value} {below : List Frame} {meth : Method} {c : Code} {rr : Int32} {hh : PH} (X : Cx G p s m args meth c cX2_sideOf 3 RX2 "sideOf" (some .int)) (t0 : Int32) (h : PH) (H : Heap) (locs : List Loc) (ls : Array Slot) (hH : Hx G s h H locs) (hl : lv_has ls 3 []) (hf : f_X2_sideOf_b40 G t0 h = some (rr, hh)) : W p l e rm_X2_sideOf s m args below meth c H locs 0 0 (Fq G (some (.int rr)) hh below args s rm_X2_sideOf.cells rm_X2_sideOf.slots) (F0 m 40 ls [.int t0]) := by
  have hx := X.1
  have hb := X.2.1
  unfold f_X2_sideOf_b40 at hf
  exact p_iret X hH hf (by decide) (by decide) dX2_sideOf_40
set_option maxRecDepth 100000 in
set_option maxHeartbeats 4000000 in
theorem c_X2_sideOf (l : Launch) (G : GE) (x0 : Nat) (x1 : Nat) (h : PH) (rr : Int32) (hh : PH) (hf : f_X2_sideOf G x0 x1 h = some (rr, hh)) : Ct l yX2_sideOf cX2_sideOf 3 (some .int) rm_X2_sideOf G [.ref x0, .ref x1] h (some (.int rr)) hh := by
  refine Ct.of (plainFor_of_name (by decide)) (Nat.le_of_ble_eq_true rfl) ?_
  intro p e s m args below meth c ls X hH hl
  have hl : lv_has ls 3 [(0, .ref x0), (1, .ref x1)] := hl
  have X : Cx G p s m args meth c cX2_sideOf 3 RX2 "sideOf" (some .int) := X
  have hx := X.1
  have hb := X.2.1
  unfold f_X2_sideOf at hf
  obtain ⟨H, hHe⟩ : ∃ z, z = s.heap := ⟨_, rfl⟩
  obtain ⟨locs, hLe⟩ : ∃ z, z = ([] : List Loc) := ⟨_, rfl⟩
  rw [← hHe, ← hLe] at hH
  rw [← hHe, ← hLe]
  refine lv_aload_n hx hb dX2_sideOf_0 rfl (lv_at hl 1 rfl) ?_
  refine p_getI X hH fg_RX2_43 hf dX2_sideOf_1 (fun v1 _ hf => ?_)
  refine lv_aload_n hx hb dX2_sideOf_4 rfl (lv_at hl 0 rfl) ?_
  refine p_getI X hH fg_RX2_15 hf dX2_sideOf_5 (fun v2 _ hf => ?_)
  refine p_cSI (As := [.int v1, .int v2]) (rest := []) X hH hf (fun _ _ e_ => c_X6_distance l G v1 v2 h _ _ e_) ms_X6_distance lk_RX2_46 (by decide) rfl hl.1 (Nat.le_of_ble_eq_true rfl) dX2_sideOf_8 (c2 := 0) (s2 := 0) (by decide) (fun v3 h H locs hH hf => ?_)
  refine lv_istore_n (lv' := [(2, .int v3), (0, .ref x0), (1, .ref x1)]) hx hb dX2_sideOf_11 rfl hl (by decide) rfl (fun ls hl => ?_)
  refine lv_iload_n hx hb dX2_sideOf_12 rfl (lv_at hl 0 rfl) ?_
  refine lv_aload_n hx hb dX2_sideOf_13 rfl (lv_at hl 1 rfl) ?_
  refine p_getI X hH fg_RX2_18 hf dX2_sideOf_14 (fun v4 _ hf => ?_)
  refine p_icmp_gt X hf dX2_sideOf_17 (tgt := 22) (by decide) (fun _ hf => ?_) (fun _ hf => ?_)
  · refine lv_iload_n hx hb dX2_sideOf_22 rfl (lv_at hl 0 rfl) ?_
    refine lv_bipush (v := 8) hx hb dX2_sideOf_23 (by decide) ?_
    refine lv_aload_n hx hb dX2_sideOf_25 rfl (lv_at hl 1 rfl) ?_
    refine p_getI X hH fg_RX2_18 hf dX2_sideOf_26 (fun v5 _ hf => ?_)
    refine lv_iconst (v := 2) hx hb dX2_sideOf_29 (by decide) ?_
    refine lv_idiv hx hb dX2_sideOf_30 (by decide) ?_
    refine lv_isub hx hb dX2_sideOf_31 ?_
    refine p_icmp_lt X hf dX2_sideOf_32 (tgt := 39) (by decide) (fun _ hf => ?_) (fun _ hf => ?_)
    · refine lv_iconst (v := 0) hx hb dX2_sideOf_39 (by decide) ?_
      exact w_X2_sideOf_b40 l X (0 : Int32) h H locs ls hH (lv_sub hl [] rfl) hf
    · refine lv_iconst (v := -1) hx hb dX2_sideOf_35 (by decide) ?_
      refine lv_goto (tgt := 40) hx hb dX2_sideOf_36 (by decide) ?_
      exact w_X2_sideOf_b40 l X (-1 : Int32) h H locs ls hH (lv_sub hl [] rfl) hf
  · refine lv_iconst (v := 1) hx hb dX2_sideOf_20 (by decide) ?_
    exact p_iret X hH hf (by decide) (by decide) dX2_sideOf_21
set_option maxRecDepth 100000 in
set_option maxHeartbeats 4000000 in
theorem w_X3_votesOnSide_b55 {G : GE} {p : Program} (l : Launch) {e : Env} {s : State} {m : MethodId} {args : Array Value} {below : List Frame} {meth : Method} {c : Code} {rr : Int32} {hh : PH} (X : Cx G p s m args meth c cX3_votesOnSide 5 RX3 "votesOnSide" (some .int)) (k5 : Nat → Nat → Int32 → Int32 → Int32 → PH → Option (Int32 × PH)) (ik5 : ∀ (x0 : Nat) (x1 : Nat) (x2 : Int32) (x3 : Int32) (x4 : Int32) (h : PH) (H : Heap) (locs : List Loc) (ls : Array Slot), Hx G s h H locs → lv_has ls 5 [(0, .ref x0), (1, .ref x1), (2, .int x2), (3, .int x3), (4, .int x4)] → k5 x0 x1 x2 x3 x4 h = some (rr, hh) → W p l e rm_X3_votesOnSide s m args below meth c H locs 0 0 (Fq G (some (.int rr)) hh below args s rm_X3_votesOnSide.cells rm_X3_votesOnSide.slots) (F0 m 5 ls [])) (x0 : Nat) (x1 : Nat) (x2 : Int32) (x3 : Int32) (x4 : Int32) (h : PH) (H : Heap) (locs : List Loc) (ls : Array Slot) (hH : Hx G s h H locs) (hl : lv_has ls 5 [(0, .ref x0), (1, .ref x1), (2, .int x2), (3, .int x3), (4, .int x4)]) (hf : f_X3_votesOnSide_b55 G k5 x0 x1 x2 x3 x4 h = some (rr, hh)) : W p l e rm_X3_votesOnSide s m args below meth c H locs 0 0 (Fq G (some (.int rr)) hh below args s rm_X3_votesOnSide.cells rm_X3_votesOnSide.slots) (F0 m 55 ls []) := by
  have hx := X.1
  have hb := X.2.1
  unfold f_X3_votesOnSide_b55 at hf
  refine lv_iinc (v := (x4 + (1 : Int32))) (lv' := [(4, .int (x4 + (1 : Int32))), (0, .ref x0), (1, .ref x1), (2, .int x2), (3, .int x3)]) hx hb dX3_votesOnSide_55 hl (k := 4) rfl rfl (by decide) rfl (fun ls hl => ?_)
  refine lv_goto (tgt := 5) hx hb dX3_votesOnSide_58 (by decide) ?_
  exact ik5 x0 x1 x2 x3 (x4 + (1 : Int32)) h H locs ls hH (lv_sub hl [1, 2, 3, 4, 0] rfl) hf
set_option maxRecDepth 100000 in
set_option maxHeartbeats 4000000 in
theorem w_X3_votesOnSide_b5 {G : GE} {p : Program} (l : Launch) {e : Env} {s : State} {m : MethodId} {args : Array Value} {below : List Frame} {meth : Method} {c : Code} {rr : Int32} {hh : PH} (X : Cx G p s m args meth c cX3_votesOnSide 5 RX3 "votesOnSide" (some .int)) : ∀ (n : Nat) (x0 : Nat) (x1 : Nat) (x2 : Int32) (x3 : Int32) (x4 : Int32) (h : PH) (H : Heap) (locs : List Loc) (ls : Array Slot) (hH : Hx G s h H locs) (hl : lv_has ls 5 [(0, .ref x0), (1, .ref x1), (2, .int x2), (3, .int x3), (4, .int x4)]) (hf : f_X3_votesOnSide_b5 G n x0 x1 x2 x3 x4 h = some (rr, hh)), W p l e rm_X3_votesOnSide s m args below meth c H locs 0 0 (Fq G (some (.int rr)) hh below args s rm_X3_votesOnSide.cells rm_X3_votesOnSide.slots) (F0 m 5 ls []) := by
  have hx := X.1
  have hb := X.2.1
  intro n
  induction n with
  | zero =>
    intro x0 x1 x2 x3 x4 h H locs ls hH hl hf
    have hf : (none : Option (Int32 × PH)) = some (rr, hh) := hf
    cases hf
  | succ n ih =>
    intro x0 x1 x2 x3 x4 h H locs ls hH hl hf
    have hf : f_X3_votesOnSide_b5_body G (f_X3_votesOnSide_b5 G n) x0 x1 x2 x3 x4 h = some (rr, hh) := hf
    generalize f_X3_votesOnSide_b5 G n = k5 at hf ih
    have ik5 := ih
    unfold f_X3_votesOnSide_b5_body at hf
    refine lv_iload hx hb dX3_votesOnSide_5 (lv_at hl 4 rfl) ?_
    refine lv_aload_n hx hb dX3_votesOnSide_7 rfl (lv_at hl 0 rfl) ?_
    refine p_getR X hH fg_RX3_12 hf dX3_votesOnSide_8 (fun v1 _ hf => ?_)
    refine p_cVI (As := []) (b := v1) (rest := [.int x4]) (ci := 0) X hH rfl hf (fun _ _ e_ => c_Jx4a65c_size_8abf5 l G v1 h _ _ e_) mv_Jx4a65c_size_8abf5 lk_RX3_18 (by decide) rfl hl.1 (Nat.le_of_ble_eq_true rfl) dX3_votesOnSide_11 (c2 := 0) (s2 := 0) (by decide) (fun v2 h H locs hH hf => ?_)
    refine p_icmp_ge X hf dX3_votesOnSide_14 (tgt := 61) (by decide) (fun _ hf => ?_) (fun _ hf => ?_)
    · refine lv_iload_n hx hb dX3_votesOnSide_61 rfl (lv_at hl 3 rfl) ?_
      exact p_iret X hH hf (by decide) (by decide) dX3_votesOnSide_62
    · refine lv_aload_n hx hb dX3_votesOnSide_17 rfl (lv_at hl 1 rfl) ?_
      refine lv_aload_n hx hb dX3_votesOnSide_18 rfl (lv_at hl 0 rfl) ?_
      refine p_getR X hH fg_RX3_12 hf dX3_votesOnSide_19 (fun v3 _ hf => ?_)
      refine lv_iload hx hb dX3_votesOnSide_22 (lv_at hl 4 rfl) ?_
      refine p_cVR (As := [.int x4]) (b := v3) (rest := [.ref x1]) (ci := 0) X hH rfl hf (fun _ _ e_ => c_Jx4a65c_get_915e3 l G v3 x4 h _ _ e_) mv_Jx4a65c_get_915e3 lk_RX3_22 (by decide) rfl hl.1 (Nat.le_of_ble_eq_true rfl) dX3_votesOnSide_24 (c2 := 0) (s2 := 0) (by decide) (fun v4 h H locs hH hf => ?_)
      refine p_cast X hH (ci := 5) rfl m_243 hf dX3_votesOnSide_27 (fun _ hf => ?_)
      refine p_cVI (As := [.ref v4]) (b := x1) (rest := []) (ci := 3) X hH rfl hf (fun _ _ e_ => c_X2_sideOf l G x1 v4 h _ _ e_) mv_X2_sideOf lk_RX3_64 (by decide) rfl hl.1 (Nat.le_of_ble_eq_true rfl) dX3_votesOnSide_30 (c2 := 0) (s2 := 0) (by decide) (fun v5 h H locs hH hf => ?_)
      refine lv_iload_n hx hb dX3_votesOnSide_33 rfl (lv_at hl 2 rfl) ?_
      refine p_icmp_ne X hf dX3_votesOnSide_34 (tgt := 55) (by decide) (fun _ hf => ?_) (fun _ hf => ?_)
      · exact w_X3_votesOnSide_b55 l X k5 ik5 x0 x1 x2 x3 x4 h H locs ls hH (lv_sub hl [0, 1, 2, 3, 4] rfl) hf
      · refine lv_iload_n hx hb dX3_votesOnSide_37 rfl (lv_at hl 3 rfl) ?_
        refine lv_aload_n hx hb dX3_votesOnSide_38 rfl (lv_at hl 0 rfl) ?_
        refine p_getR X hH fg_RX3_12 hf dX3_votesOnSide_39 (fun v6 _ hf => ?_)
        refine lv_iload hx hb dX3_votesOnSide_42 (lv_at hl 4 rfl) ?_
        refine p_cVR (As := [.int x4]) (b := v6) (rest := [.int x3]) (ci := 0) X hH rfl hf (fun _ _ e_ => c_Jx4a65c_get_915e3 l G v6 x4 h _ _ e_) mv_Jx4a65c_get_915e3 lk_RX3_22 (by decide) rfl hl.1 (Nat.le_of_ble_eq_true rfl) dX3_votesOnSide_44 (c2 := 0) (s2 := 0) (by decide) (fun v7 h H locs hH hf => ?_)
        refine p_cast X hH (ci := 5) rfl m_243 hf dX3_votesOnSide_47 (fun _ hf => ?_)
        refine p_getI X hH fg_RX3_72 hf dX3_votesOnSide_50 (fun v8 _ hf => ?_)
        refine lv_iadd hx hb dX3_votesOnSide_53 ?_
        refine lv_istore_n (lv' := [(3, .int (x3 + v8)), (0, .ref x0), (1, .ref x1), (2, .int x2), (4, .int x4)]) hx hb dX3_votesOnSide_54 rfl hl (by decide) rfl (fun ls hl => ?_)
        exact w_X3_votesOnSide_b55 l X k5 ik5 x0 x1 x2 (x3 + v8) x4 h H locs ls hH (lv_sub hl [1, 2, 3, 0, 4] rfl) hf
set_option maxRecDepth 100000 in
set_option maxHeartbeats 4000000 in
theorem c_X3_votesOnSide (l : Launch) (G : GE) (x0 : Nat) (x1 : Nat) (x2 : Int32) (h : PH) (rr : Int32) (hh : PH) (hf : f_X3_votesOnSide G x0 x1 x2 h = some (rr, hh)) : Ct l yX3_votesOnSide cX3_votesOnSide 5 (some .int) rm_X3_votesOnSide G [.ref x0, .ref x1, .int x2] h (some (.int rr)) hh := by
  refine Ct.of (plainFor_of_name (by decide)) (Nat.le_of_ble_eq_true rfl) ?_
  intro p e s m args below meth c ls X hH hl
  have hl : lv_has ls 5 [(0, .ref x0), (1, .ref x1), (2, .int x2)] := hl
  have X : Cx G p s m args meth c cX3_votesOnSide 5 RX3 "votesOnSide" (some .int) := X
  have hx := X.1
  have hb := X.2.1
  unfold f_X3_votesOnSide at hf
  obtain ⟨H, hHe⟩ : ∃ z, z = s.heap := ⟨_, rfl⟩
  obtain ⟨locs, hLe⟩ : ∃ z, z = ([] : List Loc) := ⟨_, rfl⟩
  rw [← hHe, ← hLe] at hH
  rw [← hHe, ← hLe]
  refine lv_iconst (v := 0) hx hb dX3_votesOnSide_0 (by decide) ?_
  refine lv_istore_n (lv' := [(3, .int (0 : Int32)), (0, .ref x0), (1, .ref x1), (2, .int x2)]) hx hb dX3_votesOnSide_1 rfl hl (by decide) rfl (fun ls hl => ?_)
  refine lv_iconst (v := 0) hx hb dX3_votesOnSide_2 (by decide) ?_
  refine lv_istore (lv' := [(4, .int (0 : Int32)), (3, .int (0 : Int32)), (0, .ref x0), (1, .ref x1), (2, .int x2)]) hx hb dX3_votesOnSide_3 hl (by decide) rfl (fun ls hl => ?_)
  exact w_X3_votesOnSide_b5 l X LF x0 x1 x2 (0 : Int32) (0 : Int32) h H locs ls hH (lv_sub hl [2, 3, 4, 1, 0] rfl) hf
set_option maxRecDepth 100000 in
set_option maxHeartbeats 4000000 in
theorem w_X3_carries_b105 {G : GE} {p : Program} (l : Launch) {e : Env} {s : State} {m : MethodId} {args : Array Value} {below : List Frame} {meth : Method} {c : Code} {rr : Int32} {hh : PH} (X : Cx G p s m args meth c cX3_carries 6 RX3 "carries" (some .boolean)) (t0 : Int32) (h : PH) (H : Heap) (locs : List Loc) (ls : Array Slot) (hH : Hx G s h H locs) (hl : lv_has ls 6 []) (hf : f_X3_carries_b105 G t0 h = some (rr, hh)) : W p l e rm_X3_carries s m args below meth c H locs 0 0 (Fq G (some (.int rr)) hh below args s rm_X3_carries.cells rm_X3_carries.slots) (F0 m 105 ls [.int t0]) := by
  have hx := X.1
  have hb := X.2.1
  unfold f_X3_carries_b105 at hf
  exact p_zret X hH hf (by decide) (by decide) dX3_carries_105
set_option maxRecDepth 100000 in
set_option maxHeartbeats 4000000 in
theorem w_X3_carries_b104 {G : GE} {p : Program} (l : Launch) {e : Env} {s : State} {m : MethodId} {args : Array Value} {below : List Frame} {meth : Method} {c : Code} {rr : Int32} {hh : PH} (X : Cx G p s m args meth c cX3_carries 6 RX3 "carries" (some .boolean))  (h : PH) (H : Heap) (locs : List Loc) (ls : Array Slot) (hH : Hx G s h H locs) (hl : lv_has ls 6 []) (hf : f_X3_carries_b104 G  h = some (rr, hh)) : W p l e rm_X3_carries s m args below meth c H locs 0 0 (Fq G (some (.int rr)) hh below args s rm_X3_carries.cells rm_X3_carries.slots) (F0 m 104 ls []) := by
  have hx := X.1
  have hb := X.2.1
  unfold f_X3_carries_b104 at hf
  refine lv_iconst (v := 0) hx hb dX3_carries_104 (by decide) ?_
  exact w_X3_carries_b105 l X (0 : Int32) h H locs ls hH (lv_sub hl [] rfl) hf
set_option maxRecDepth 100000 in
set_option maxHeartbeats 4000000 in
theorem w_X3_carries_b7 {G : GE} {p : Program} (l : Launch) {e : Env} {s : State} {m : MethodId} {args : Array Value} {below : List Frame} {meth : Method} {c : Code} {rr : Int32} {hh : PH} (X : Cx G p s m args meth c cX3_carries 6 RX3 "carries" (some .boolean)) : ∀ (n : Nat) (x0 : Nat) (x1 : Nat) (x2 : Int32) (x3 : Int32) (x4 : Int32) (h : PH) (H : Heap) (locs : List Loc) (ls : Array Slot) (hH : Hx G s h H locs) (hl : lv_has ls 6 [(0, .ref x0), (1, .ref x1), (2, .int x2), (3, .int x3), (4, .int x4)]) (hf : f_X3_carries_b7 G n x0 x1 x2 x3 x4 h = some (rr, hh)), W p l e rm_X3_carries s m args below meth c H locs 0 0 (Fq G (some (.int rr)) hh below args s rm_X3_carries.cells rm_X3_carries.slots) (F0 m 7 ls []) := by
  have hx := X.1
  have hb := X.2.1
  intro n
  induction n with
  | zero =>
    intro x0 x1 x2 x3 x4 h H locs ls hH hl hf
    have hf : (none : Option (Int32 × PH)) = some (rr, hh) := hf
    cases hf
  | succ n ih =>
    intro x0 x1 x2 x3 x4 h H locs ls hH hl hf
    have hf : f_X3_carries_b7_body G (f_X3_carries_b7 G n) x0 x1 x2 x3 x4 h = some (rr, hh) := hf
    generalize f_X3_carries_b7 G n = k7 at hf ih
    have ik7 := ih
    unfold f_X3_carries_b7_body at hf
    refine lv_iload hx hb dX3_carries_7 (lv_at hl 4 rfl) ?_
    refine lv_aload_n hx hb dX3_carries_9 rfl (lv_at hl 0 rfl) ?_
    refine p_getR X hH fg_RX3_12 hf dX3_carries_10 (fun v1 _ hf => ?_)
    refine p_cVI (As := []) (b := v1) (rest := [.int x4]) (ci := 0) X hH rfl hf (fun _ _ e_ => c_Jx4a65c_size_8abf5 l G v1 h _ _ e_) mv_Jx4a65c_size_8abf5 lk_RX3_18 (by decide) rfl hl.1 (Nat.le_of_ble_eq_true rfl) dX3_carries_13 (c2 := 0) (s2 := 0) (by decide) (fun v2 h H locs hH hf => ?_)
    refine p_icmp_ge X hf dX3_carries_16 (tgt := 88) (by decide) (fun _ hf => ?_) (fun _ hf => ?_)
    · refine lv_iload_n hx hb dX3_carries_88 rfl (lv_at hl 2 rfl) ?_
      refine lv_aload_n hx hb dX3_carries_89 rfl (lv_at hl 1 rfl) ?_
      refine p_getI X hH fg_RX3_81 hf dX3_carries_90 (fun v3 _ hf => ?_)
      refine p_icmp_lt X hf dX3_carries_93 (tgt := 104) (by decide) (fun _ hf => ?_) (fun _ hf => ?_)
      · exact w_X3_carries_b104 l X  h H locs ls hH (lv_sub hl [] rfl) hf
      · refine lv_iload_n hx hb dX3_carries_96 rfl (lv_at hl 3 rfl) ?_
        refine p_if_le X hf dX3_carries_97 (tgt := 104) (by decide) (fun _ hf => ?_) (fun _ hf => ?_)
        · exact w_X3_carries_b104 l X  h H locs ls hH (lv_sub hl [] rfl) hf
        · refine lv_iconst (v := 1) hx hb dX3_carries_100 (by decide) ?_
          refine lv_goto (tgt := 105) hx hb dX3_carries_101 (by decide) ?_
          exact w_X3_carries_b105 l X (1 : Int32) h H locs ls hH (lv_sub hl [] rfl) hf
    · refine lv_aload_n hx hb dX3_carries_19 rfl (lv_at hl 1 rfl) ?_
      refine lv_aload_n hx hb dX3_carries_20 rfl (lv_at hl 0 rfl) ?_
      refine p_getR X hH fg_RX3_12 hf dX3_carries_21 (fun v4 _ hf => ?_)
      refine lv_iload hx hb dX3_carries_24 (lv_at hl 4 rfl) ?_
      refine p_cVR (As := [.int x4]) (b := v4) (rest := [.ref x1]) (ci := 0) X hH rfl hf (fun _ _ e_ => c_Jx4a65c_get_915e3 l G v4 x4 h _ _ e_) mv_Jx4a65c_get_915e3 lk_RX3_22 (by decide) rfl hl.1 (Nat.le_of_ble_eq_true rfl) dX3_carries_26 (c2 := 0) (s2 := 0) (by decide) (fun v5 h H locs hH hf => ?_)
      refine p_cast X hH (ci := 5) rfl m_243 hf dX3_carries_29 (fun _ hf => ?_)
      refine p_cVI (As := [.ref v5]) (b := x1) (rest := []) (ci := 3) X hH rfl hf (fun _ _ e_ => c_X2_sideOf l G x1 v5 h _ _ e_) mv_X2_sideOf lk_RX3_64 (by decide) rfl hl.1 (Nat.le_of_ble_eq_true rfl) dX3_carries_32 (c2 := 0) (s2 := 0) (by decide) (fun v6 h H locs hH hf => ?_)
      refine lv_istore (lv' := [(5, .int v6), (0, .ref x0), (1, .ref x1), (2, .int x2), (3, .int x3), (4, .int x4)]) hx hb dX3_carries_35 hl (by decide) rfl (fun ls hl => ?_)
      refine lv_iload_n hx hb dX3_carries_37 rfl (lv_at hl 3 rfl) ?_
      refine lv_aload_n hx hb dX3_carries_38 rfl (lv_at hl 1 rfl) ?_
      refine p_getR X hH fg_RX3_12 hf dX3_carries_39 (fun v7 _ hf => ?_)
      refine lv_iload hx hb dX3_carries_42 (lv_at hl 5 rfl) ?_
      refine p_cVR (As := [.int x4]) (b := v7) (rest := [.int x2]) (ci := 0) X hH rfl hf (fun _ _ e_ => c_Jx4a65c_get_915e3 l G v7 x4 h _ _ e_) mv_Jx4a65c_get_915e3 lk_RX3_22 (by decide) rfl hl.1 (Nat.le_of_ble_eq_true rfl) dX3_carries_44 (c2 := 0) (s2 := 0) (by decide) (fun v8 h H locs hH hf => ?_)
      refine p_cast X hH (ci := 5) rfl m_243 hf dX3_carries_47 (fun _ hf => ?_)
      refine p_getI X hH fg_RX3_72 hf dX3_carries_50 (fun v9 _ hf => ?_)
      refine lv_iload hx hb dX3_carries_53 (lv_at hl 0 rfl) ?_
      refine p_abs X m_345 m_273 m_39 m_274 hl.1 (by decide) (Nat.le_of_ble_eq_true rfl) (by decide) (by decide) dX3_carries_55 ?_
      refine lv_imul hx hb dX3_carries_58 ?_
      refine lv_iadd hx hb dX3_carries_59 ?_
      refine lv_istore_n (lv' := [(2, .int (x2 + (v9 * (abI v6)))), (5, .int v6), (0, .ref x0), (1, .ref x1), (3, .int x3), (4, .int x4)]) hx hb dX3_carries_60 rfl hl (by decide) rfl (fun ls hl => ?_)
      refine lv_iload_n hx hb dX3_carries_61 rfl (lv_at hl 4 rfl) ?_
      refine lv_aload_n hx hb dX3_carries_62 rfl (lv_at hl 2 rfl) ?_
      refine p_getR X hH fg_RX3_12 hf dX3_carries_63 (fun v10 _ hf => ?_)
      refine lv_iload hx hb dX3_carries_66 (lv_at hl 5 rfl) ?_
      refine p_cVR (As := [.int x4]) (b := v10) (rest := [.int x3]) (ci := 0) X hH rfl hf (fun _ _ e_ => c_Jx4a65c_get_915e3 l G v10 x4 h _ _ e_) mv_Jx4a65c_get_915e3 lk_RX3_22 (by decide) rfl hl.1 (Nat.le_of_ble_eq_true rfl) dX3_carries_68 (c2 := 0) (s2 := 0) (by decide) (fun v11 h H locs hH hf => ?_)
      refine p_cast X hH (ci := 5) rfl m_243 hf dX3_carries_71 (fun _ hf => ?_)
      refine p_getI X hH fg_RX3_72 hf dX3_carries_74 (fun v12 _ hf => ?_)
      refine lv_iload hx hb dX3_carries_77 (lv_at hl 1 rfl) ?_
      refine lv_imul hx hb dX3_carries_79 ?_
      refine lv_iadd hx hb dX3_carries_80 ?_
      refine lv_istore_n (lv' := [(3, .int (x3 + (v12 * v6))), (2, .int (x2 + (v9 * (abI v6)))), (5, .int v6), (0, .ref x0), (1, .ref x1), (4, .int x4)]) hx hb dX3_carries_81 rfl hl (by decide) rfl (fun ls hl => ?_)
      refine lv_iinc (v := (x4 + (1 : Int32))) (lv' := [(4, .int (x4 + (1 : Int32))), (3, .int (x3 + (v12 * v6))), (2, .int (x2 + (v9 * (abI v6)))), (5, .int v6), (0, .ref x0), (1, .ref x1)]) hx hb dX3_carries_82 hl (k := 5) rfl rfl (by decide) rfl (fun ls hl => ?_)
      refine lv_goto (tgt := 7) hx hb dX3_carries_85 (by decide) ?_
      exact ik7 x0 x1 (x2 + (v9 * (abI v6))) (x3 + (v12 * v6)) (x4 + (1 : Int32)) h H locs ls hH (lv_sub hl [4, 5, 2, 1, 0] rfl) hf
set_option maxRecDepth 100000 in
set_option maxHeartbeats 4000000 in
theorem c_X3_carries (l : Launch) (G : GE) (x0 : Nat) (x1 : Nat) (h : PH) (rr : Int32) (hh : PH) (hf : f_X3_carries G x0 x1 h = some (rr, hh)) : Ct l yX3_carries cX3_carries 6 (some .boolean) rm_X3_carries G [.ref x0, .ref x1] h (some (.int rr)) hh := by
  refine Ct.of (plainFor_of_name (by decide)) (Nat.le_of_ble_eq_true rfl) ?_
  intro p e s m args below meth c ls X hH hl
  have hl : lv_has ls 6 [(0, .ref x0), (1, .ref x1)] := hl
  have X : Cx G p s m args meth c cX3_carries 6 RX3 "carries" (some .boolean) := X
  have hx := X.1
  have hb := X.2.1
  unfold f_X3_carries at hf
  obtain ⟨H, hHe⟩ : ∃ z, z = s.heap := ⟨_, rfl⟩
  obtain ⟨locs, hLe⟩ : ∃ z, z = ([] : List Loc) := ⟨_, rfl⟩
  rw [← hHe, ← hLe] at hH
  rw [← hHe, ← hLe]
  refine lv_iconst (v := 0) hx hb dX3_carries_0 (by decide) ?_
  refine lv_istore_n (lv' := [(2, .int (0 : Int32)), (0, .ref x0), (1, .ref x1)]) hx hb dX3_carries_1 rfl hl (by decide) rfl (fun ls hl => ?_)
  refine lv_iconst (v := 0) hx hb dX3_carries_2 (by decide) ?_
  refine lv_istore_n (lv' := [(3, .int (0 : Int32)), (2, .int (0 : Int32)), (0, .ref x0), (1, .ref x1)]) hx hb dX3_carries_3 rfl hl (by decide) rfl (fun ls hl => ?_)
  refine lv_iconst (v := 0) hx hb dX3_carries_4 (by decide) ?_
  refine lv_istore (lv' := [(4, .int (0 : Int32)), (3, .int (0 : Int32)), (2, .int (0 : Int32)), (0, .ref x0), (1, .ref x1)]) hx hb dX3_carries_5 hl (by decide) rfl (fun ls hl => ?_)
  exact w_X3_carries_b7 l X LF x0 x1 (0 : Int32) (0 : Int32) (0 : Int32) h H locs ls hH (lv_sub hl [3, 4, 2, 1, 0] rfl) hf
set_option maxRecDepth 100000 in
set_option maxHeartbeats 4000000 in
theorem w_X2_tell_b95 {G : GE} {p : Program} (l : Launch) {e : Env} {s : State} {m : MethodId} {args : Array Value} {below : List Frame} {meth : Method} {c : Code} {rr : Int32} {hh : PH} (X : Cx G p s m args meth c cX2_tell 3 RX2 "tell" (some .int)) (t0 : Int32) (h : PH) (H : Heap) (locs : List Loc) (ls : Array Slot) (hH : Hx G s h H locs) (hl : lv_has ls 3 []) (hf : f_X2_tell_b95 G t0 h = some (rr, hh)) : W p l e rm_X2_tell s m args below meth c H locs 0 0 (Fq G (some (.int rr)) hh below args s rm_X2_tell.cells rm_X2_tell.slots) (F0 m 95 ls [.int t0]) := by
  have hx := X.1
  have hb := X.2.1
  unfold f_X2_tell_b95 at hf
  exact p_iret X hH hf (by decide) (by decide) dX2_tell_95
set_option maxRecDepth 100000 in
set_option maxHeartbeats 4000000 in
theorem c_X2_tell (l : Launch) (G : GE) (x0 : Nat) (x1 : Int32) (x2 : Nat) (h : PH) (rr : Int32) (hh : PH) (hf : f_X2_tell G x0 x1 x2 h = some (rr, hh)) : Ct l yX2_tell cX2_tell 3 (some .int) rm_X2_tell G [.ref x0, .int x1, .ref x2] h (some (.int rr)) hh := by
  refine Ct.of (plainFor_of_name (by decide)) (Nat.le_of_ble_eq_true rfl) ?_
  intro p e s m args below meth c ls X hH hl
  have hl : lv_has ls 3 [(0, .ref x0), (1, .int x1), (2, .ref x2)] := hl
  have X : Cx G p s m args meth c cX2_tell 3 RX2 "tell" (some .int) := X
  have hx := X.1
  have hb := X.2.1
  unfold f_X2_tell at hf
  obtain ⟨H, hHe⟩ : ∃ z, z = s.heap := ⟨_, rfl⟩
  obtain ⟨locs, hLe⟩ : ∃ z, z = ([] : List Loc) := ⟨_, rfl⟩
  rw [← hHe, ← hLe] at hH
  rw [← hHe, ← hLe]
  refine lv_iload_n hx hb dX2_tell_0 rfl (lv_at hl 1 rfl) ?_
  by_cases g1 : x1 = (0 : Int32)
  · rw [if_pos g1] at hf
    refine p_tin X dX2_tell_1 g1 (by decide) (by decide) rfl (tgt := 48) (by decide) ?_
    refine lv_aload_n hx hb dX2_tell_48 rfl (lv_at hl 0 rfl) ?_
    refine p_getI X hH fg_RX2_15 hf dX2_tell_49 (fun v2 _ hf => ?_)
    exact p_iret X hH hf (by decide) (by decide) dX2_tell_52
  rw [if_neg g1] at hf
  by_cases g3 : x1 = (1 : Int32)
  · rw [if_pos g3] at hf
    refine p_tin X dX2_tell_1 g3 (by decide) (by decide) rfl (tgt := 53) (by decide) ?_
    refine lv_aload_n hx hb dX2_tell_53 rfl (lv_at hl 0 rfl) ?_
    refine p_getI X hH fg_RX2_18 hf dX2_tell_54 (fun v4 _ hf => ?_)
    exact p_iret X hH hf (by decide) (by decide) dX2_tell_57
  rw [if_neg g3] at hf
  by_cases g5 : x1 = (2 : Int32)
  · rw [if_pos g5] at hf
    refine p_tin X dX2_tell_1 g5 (by decide) (by decide) rfl (tgt := 58) (by decide) ?_
    refine lv_aload_n hx hb dX2_tell_58 rfl (lv_at hl 0 rfl) ?_
    refine p_getI X hH fg_RX2_21 hf dX2_tell_59 (fun v6 _ hf => ?_)
    exact p_iret X hH hf (by decide) (by decide) dX2_tell_62
  rw [if_neg g5] at hf
  by_cases g7 : x1 = (3 : Int32)
  · rw [if_pos g7] at hf
    refine p_tin X dX2_tell_1 g7 (by decide) (by decide) rfl (tgt := 63) (by decide) ?_
    refine lv_aload_n hx hb dX2_tell_63 rfl (lv_at hl 0 rfl) ?_
    refine p_getI X hH fg_RX2_24 hf dX2_tell_64 (fun v8 _ hf => ?_)
    exact p_iret X hH hf (by decide) (by decide) dX2_tell_67
  rw [if_neg g7] at hf
  by_cases g9 : x1 = (4 : Int32)
  · rw [if_pos g9] at hf
    refine p_tin X dX2_tell_1 g9 (by decide) (by decide) rfl (tgt := 68) (by decide) ?_
    refine lv_aload_n hx hb dX2_tell_68 rfl (lv_at hl 2 rfl) ?_
    refine lv_aload_n hx hb dX2_tell_69 rfl (lv_at hl 0 rfl) ?_
    refine lv_iconst (v := 1) hx hb dX2_tell_70 (by decide) ?_
    refine p_cVI (As := [.ref x0, .int (1 : Int32)]) (b := x2) (rest := []) (ci := 4) X hH rfl hf (fun _ _ e_ => c_X3_votesOnSide l G x2 x0 (1 : Int32) h _ _ e_) mv_X3_votesOnSide lk_RX2_27 (by decide) rfl hl.1 (Nat.le_of_ble_eq_true rfl) dX2_tell_71 (c2 := 0) (s2 := 0) (by decide) (fun v10 h H locs hH hf => ?_)
    exact p_iret X hH hf (by decide) (by decide) dX2_tell_74
  rw [if_neg g9] at hf
  by_cases g11 : x1 = (5 : Int32)
  · rw [if_pos g11] at hf
    refine p_tin X dX2_tell_1 g11 (by decide) (by decide) rfl (tgt := 75) (by decide) ?_
    refine lv_aload_n hx hb dX2_tell_75 rfl (lv_at hl 2 rfl) ?_
    refine lv_aload_n hx hb dX2_tell_76 rfl (lv_at hl 0 rfl) ?_
    refine lv_iconst (v := -1) hx hb dX2_tell_77 (by decide) ?_
    refine p_cVI (As := [.ref x0, .int (-1 : Int32)]) (b := x2) (rest := []) (ci := 4) X hH rfl hf (fun _ _ e_ => c_X3_votesOnSide l G x2 x0 (-1 : Int32) h _ _ e_) mv_X3_votesOnSide lk_RX2_27 (by decide) rfl hl.1 (Nat.le_of_ble_eq_true rfl) dX2_tell_78 (c2 := 0) (s2 := 0) (by decide) (fun v12 h H locs hH hf => ?_)
    exact p_iret X hH hf (by decide) (by decide) dX2_tell_81
  rw [if_neg g11] at hf
  by_cases g13 : x1 = (6 : Int32)
  · rw [if_pos g13] at hf
    refine p_tin X dX2_tell_1 g13 (by decide) (by decide) rfl (tgt := 82) (by decide) ?_
    refine lv_aload_n hx hb dX2_tell_82 rfl (lv_at hl 2 rfl) ?_
    refine lv_aload_n hx hb dX2_tell_83 rfl (lv_at hl 0 rfl) ?_
    refine p_cVI (As := [.ref x0]) (b := x2) (rest := []) (ci := 4) X hH rfl hf (fun _ _ e_ => c_X3_carries l G x2 x0 h _ _ e_) mv_X3_carries lk_RX2_33 (by decide) rfl hl.1 (Nat.le_of_ble_eq_true rfl) dX2_tell_84 (c2 := 0) (s2 := 0) (by decide) (fun v14 h H locs hH hf => ?_)
    refine p_if_eq X hf dX2_tell_87 (tgt := 94) (by decide) (fun _ hf => ?_) (fun _ hf => ?_)
    · refine lv_iconst (v := 0) hx hb dX2_tell_94 (by decide) ?_
      exact w_X2_tell_b95 l X (0 : Int32) h H locs ls hH (lv_sub hl [] rfl) hf
    · refine lv_iconst (v := 1) hx hb dX2_tell_90 (by decide) ?_
      refine lv_goto (tgt := 95) hx hb dX2_tell_91 (by decide) ?_
      exact w_X2_tell_b95 l X (1 : Int32) h H locs ls hH (lv_sub hl [] rfl) hf
  rw [if_neg g13] at hf
  by_cases g15 : x1 = (7 : Int32)
  · rw [if_pos g15] at hf
    refine p_tin X dX2_tell_1 g15 (by decide) (by decide) rfl (tgt := 96) (by decide) ?_
    refine lv_aload_n hx hb dX2_tell_96 rfl (lv_at hl 0 rfl) ?_
    refine p_getI X hH fg_RX2_37 hf dX2_tell_97 (fun v16 _ hf => ?_)
    exact p_iret X hH hf (by decide) (by decide) dX2_tell_100
  rw [if_neg g15] at hf
  refine p_tout (N := 7) X dX2_tell_1 (by decide) (fun j hj => by match j, hj with | 0, _ => exact g1 | 1, _ => exact g3 | 2, _ => exact g5 | 3, _ => exact g7 | 4, _ => exact g9 | 5, _ => exact g11 | 6, _ => exact g13 | 7, _ => exact g15 | j + 8, hj => omega) (tgt := 101) (by decide) ?_
  refine lv_aload_n hx hb dX2_tell_101 rfl (lv_at hl 0 rfl) ?_
  refine p_getI X hH fg_RX2_40 hf dX2_tell_102 (fun v17 _ hf => ?_)
  exact p_iret X hH hf (by decide) (by decide) dX2_tell_105
