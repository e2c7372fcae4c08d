/-! ===== walks (printed by program) ===== -/
set_option maxRecDepth 100000 in
set_option maxHeartbeats 4000000 in
theorem w_J8_newLength_cabcc_b21 {G : GE} {p : Program} (l : Launch) {e : Env} {s : State} {m : MethodId} {args : Array Value} {below : List Frame} {meth : Method} {c : Code} {rr : Int32} {hh : PH} (X : Cx G p s m args meth c cJ8_newLength_cabcc 4 RJ8 "newLength" (some .int)) (x0 : Int32) (x1 : Int32) (h : PH) (H : Heap) (locs : List Loc) (ls : Array Slot) (hH : Hx G s h H locs) (hl : lv_has ls 4 [(0, .int x0), (1, .int x1)]) (hf : f_J8_newLength_cabcc_b21 G x0 x1 h = some (rr, hh)) : W p l e rm_J8_newLength_cabcc s m args below meth c H locs 0 0 (Fq G (some (.int rr)) hh below args s rm_J8_newLength_cabcc.cells rm_J8_newLength_cabcc.slots) (F0 m 21 ls []) := by
  have hx := X.1
  have hb := X.2.1
  unfold f_J8_newLength_cabcc_b21 at hf
  cases hf
set_option maxRecDepth 100000 in
set_option maxHeartbeats 4000000 in
theorem c_J8_newLength_cabcc (l : Launch) (G : GE) (x0 : Int32) (x1 : Int32) (x2 : Int32) (h : PH) (rr : Int32) (hh : PH) (hf : f_J8_newLength_cabcc G x0 x1 x2 h = some (rr, hh)) : Ct l yJ8_newLength_cabcc cJ8_newLength_cabcc 4 (some .int) rm_J8_newLength_cabcc G [.int x0, .int x1, .int x2] h (some (.int rr)) hh := by
  refine Ct.of (plainFor_of_name (by decide)) (Nat.le_of_ble_eq_true rfl) ?_
  intro p e s m args below meth c ls X hH hl
  have hl : lv_has ls 4 [(0, .int x0), (1, .int x1), (2, .int x2)] := hl
  have X : Cx G p s m args meth c cJ8_newLength_cabcc 4 RJ8 "newLength" (some .int) := X
  have hx := X.1
  have hb := X.2.1
  unfold f_J8_newLength_cabcc at hf
  obtain ⟨H, hHe⟩ : ∃ z, z = s.heap := ⟨_, rfl⟩
  obtain ⟨locs, hLe⟩ : ∃ z, z = ([] : List Loc) := ⟨_, rfl⟩
  rw [← hHe, ← hLe] at hH
  rw [← hHe, ← hLe]
  refine lv_iload_n hx hb dJ8_newLength_cabcc_0 rfl (lv_at hl 0 rfl) ?_
  refine lv_iload_n hx hb dJ8_newLength_cabcc_1 rfl (lv_at hl 1 rfl) ?_
  refine lv_iload_n hx hb dJ8_newLength_cabcc_2 rfl (lv_at hl 2 rfl) ?_
  refine p_max X m_147 m_148 m_39 m_149 hl.1 (by decide) (Nat.le_of_ble_eq_true rfl) (by decide) (by decide) dJ8_newLength_cabcc_3 ?_
  refine lv_iadd hx hb dJ8_newLength_cabcc_6 ?_
  refine lv_istore_n (lv' := [(3, .int (x0 + (mxI x1 x2))), (0, .int x0), (1, .int x1), (2, .int x2)]) hx hb dJ8_newLength_cabcc_7 rfl hl (by decide) rfl (fun ls hl => ?_)
  refine lv_iconst (v := 0) hx hb dJ8_newLength_cabcc_8 (by decide) ?_
  refine lv_iload_n hx hb dJ8_newLength_cabcc_9 rfl (lv_at hl 0 rfl) ?_
  refine p_icmp_ge X hf dJ8_newLength_cabcc_10 (tgt := 21) (by decide) (fun _ hf => ?_) (fun _ hf => ?_)
  · exact w_J8_newLength_cabcc_b21 l X x0 x1 h H locs ls hH (lv_sub hl [1, 2] rfl) hf
  · refine lv_iload_n hx hb dJ8_newLength_cabcc_13 rfl (lv_at hl 0 rfl) ?_
    refine lv_ldc hx hb X.2.2.2.1 (X.2.2.2.2.1 _ m_150) dJ8_newLength_cabcc_14 ?_
    refine p_icmp_gt X hf dJ8_newLength_cabcc_16 (tgt := 21) (by decide) (fun _ hf => ?_) (fun _ hf => ?_)
    · exact w_J8_newLength_cabcc_b21 l X x0 x1 h H locs ls hH (lv_sub hl [1, 2] rfl) hf
    · refine lv_iload_n hx hb dJ8_newLength_cabcc_19 rfl (lv_at hl 0 rfl) ?_
      exact p_iret X hH hf (by decide) (by decide) dJ8_newLength_cabcc_20
set_option maxRecDepth 100000 in
set_option maxHeartbeats 4000000 in
theorem w_J7_copyOf_6403c_b24 {G : GE} {p : Program} (l : Launch) {e : Env} {s : State} {m : MethodId} {args : Array Value} {below : List Frame} {meth : Method} {c : Code} {rr : Nat} {hh : PH} (X : Cx G p s m args meth c cJ7_copyOf_6403c 4 RJ7 "copyOf" (some (.array (.object "java/lang/Object")))) (x0 : Nat) (x1 : Int32) (t0 : Nat) (h : PH) (H : Heap) (locs : List Loc) (ls : Array Slot) (hH : Hx G s h H locs) (hl : lv_has ls 4 [(0, .ref x0), (1, .int x1)]) (hf : f_J7_copyOf_6403c_b24 G x0 x1 t0 h = some (rr, hh)) : W p l e rm_J7_copyOf_6403c s m args below meth c H locs 1 48 (Fq G (some (.ref rr)) hh below args s rm_J7_copyOf_6403c.cells rm_J7_copyOf_6403c.slots) (F0 m 24 ls [.ref t0]) := by
  have hx := X.1
  have hb := X.2.1
  unfold f_J7_copyOf_6403c_b24 at hf
  refine lv_astore_n (lv' := [(3, .ref t0), (0, .ref x0), (1, .int x1)]) hx hb dJ7_copyOf_6403c_24 rfl hl (by decide) rfl (fun ls hl => ?_)
  refine lv_aload_n hx hb dJ7_copyOf_6403c_25 rfl (lv_at hl 1 rfl) ?_
  refine lv_iconst (v := 0) hx hb dJ7_copyOf_6403c_26 (by decide) ?_
  refine lv_aload_n hx hb dJ7_copyOf_6403c_27 rfl (lv_at hl 0 rfl) ?_
  refine lv_iconst (v := 0) hx hb dJ7_copyOf_6403c_28 (by decide) ?_
  refine lv_aload_n hx hb dJ7_copyOf_6403c_29 rfl (lv_at hl 1 rfl) ?_
  refine p_alen X hH hf dJ7_copyOf_6403c_30 (fun v2 _ hf => ?_)
  refine lv_iload_n hx hb dJ7_copyOf_6403c_31 rfl (lv_at hl 2 rfl) ?_
  refine p_min X m_180 m_181 m_39 m_182 hl.1 (by decide) (Nat.le_of_ble_eq_true rfl) (by decide) (by decide) dJ7_copyOf_6403c_32 ?_
  refine p_copy1 X hH m_183 m_185 m_184 m_41 hl.1 (by decide) (Nat.le_of_ble_eq_true rfl) hf dJ7_copyOf_6403c_35 (fun h H locs hH hf => ?_)
  refine lv_aload_n hx hb dJ7_copyOf_6403c_38 rfl (lv_at hl 0 rfl) ?_
  exact p_aret X (by first | exact Or.inl ⟨_, rfl⟩ | exact Or.inr ⟨_, rfl⟩) hH hf (by decide) (by decide) dJ7_copyOf_6403c_39
set_option maxRecDepth 100000 in
set_option maxHeartbeats 4000000 in
theorem c_J7_copyOf_6403c (l : Launch) (G : GE) (x0 : Nat) (x1 : Int32) (x2 : Nat) (h : PH) (rr : Nat) (hh : PH) (hf : f_J7_copyOf_6403c G x0 x1 x2 h = some (rr, hh)) : Ct l yJ7_copyOf_6403c cJ7_copyOf_6403c 4 (some (.array (.object "java/lang/Object"))) rm_J7_copyOf_6403c G [.ref x0, .int x1, .ref x2] h (some (.ref rr)) hh := by
  refine Ct.of (plainFor_of_name (by decide)) (Nat.le_of_ble_eq_true rfl) ?_
  intro p e s m args below meth c ls X hH hl
  have hl : lv_has ls 4 [(0, .ref x0), (1, .int x1), (2, .ref x2)] := hl
  have X : Cx G p s m args meth c cJ7_copyOf_6403c 4 RJ7 "copyOf" (some (.array (.object "java/lang/Object"))) := X
  have hx := X.1
  have hb := X.2.1
  unfold f_J7_copyOf_6403c at hf
  obtain ⟨H, hHe⟩ : ∃ z, z = s.heap := ⟨_, rfl⟩
  obtain ⟨locs, hLe⟩ : ∃ z, z = ([] : List Loc) := ⟨_, rfl⟩
  rw [← hHe, ← hLe] at hH
  rw [← hHe, ← hLe]
  refine lv_aload_n hx hb dJ7_copyOf_6403c_0 rfl (lv_at hl 2 rfl) ?_
  refine p_ldcM X m_177 dJ7_copyOf_6403c_1 ?_
  refine p_acmp_ne X hf dJ7_copyOf_6403c_3 (tgt := 13) (by decide) (fun _ hf => ?_) (fun _ hf => ?_)
  · cases hf
  · refine lv_iload_n hx hb dJ7_copyOf_6403c_6 rfl (lv_at hl 1 rfl) ?_
    refine p_newR X hH m_179 (B := 48) (by decide) (by decide) (by decide) hf dJ7_copyOf_6403c_7 (fun q1 h H hH hf => ?_)
    refine W.widen (k := 1) (n := 48) (by decide) (by decide) ?_
    refine lv_goto (tgt := 24) hx hb dJ7_copyOf_6403c_10 (by decide) ?_
    exact w_J7_copyOf_6403c_b24 l X x0 x1 q1 h H locs ls hH (lv_sub hl [0, 1] rfl) hf
set_option maxRecDepth 100000 in
set_option maxHeartbeats 4000000 in
theorem c_J7_copyOf_1904c (l : Launch) (G : GE) (x0 : Nat) (x1 : Int32) (h : PH) (rr : Nat) (hh : PH) (hf : f_J7_copyOf_1904c G x0 x1 h = some (rr, hh)) : Ct l yJ7_copyOf_1904c cJ7_copyOf_1904c 2 (some (.array (.object "java/lang/Object"))) rm_J7_copyOf_1904c G [.ref x0, .int x1] h (some (.ref rr)) hh := by
  refine Ct.of (plainFor_of_name (by decide)) (Nat.le_of_ble_eq_true rfl) ?_
  intro p e s m args below meth c ls X hH hl
  have hl : lv_has ls 2 [(0, .ref x0), (1, .int x1)] := hl
  have X : Cx G p s m args meth c cJ7_copyOf_1904c 2 RJ7 "copyOf" (some (.array (.object "java/lang/Object"))) := X
  have hx := X.1
  have hb := X.2.1
  unfold f_J7_copyOf_1904c at hf
  obtain ⟨H, hHe⟩ : ∃ z, z = s.heap := ⟨_, rfl⟩
  obtain ⟨locs, hLe⟩ : ∃ z, z = ([] : List Loc) := ⟨_, rfl⟩
  rw [← hHe, ← hLe] at hH
  rw [← hHe, ← hLe]
  refine lv_aload_n hx hb dJ7_copyOf_1904c_0 rfl (lv_at hl 0 rfl) ?_
  refine lv_iload_n hx hb dJ7_copyOf_1904c_1 rfl (lv_at hl 1 rfl) ?_
  refine lv_aload_n hx hb dJ7_copyOf_1904c_2 rfl (lv_at hl 0 rfl) ?_
  refine p_getC X hH m_157 m_1133 m_158 m_173 (by decide) hl.1 (by decide) (Nat.le_of_ble_eq_true rfl) hf dJ7_copyOf_1904c_3 (fun _ hf => ?_)
  refine p_cSR (As := [.ref x0, .int x1, .ref (gMI G)]) (rest := []) X hH hf (fun _ _ e_ => c_J7_copyOf_6403c l G x0 x1 (gMI G) h _ _ e_) ms_J7_copyOf_6403c lk_RJ7_300 (by decide) rfl hl.1 (Nat.le_of_ble_eq_true rfl) dJ7_copyOf_1904c_6 (c2 := 1) (s2 := 48) (by decide) (fun v1 h H locs hH hf => ?_)
  exact p_aret X (by first | exact Or.inl ⟨_, rfl⟩ | exact Or.inr ⟨_, rfl⟩) hH hf (by decide) (by decide) dJ7_copyOf_1904c_9
set_option maxRecDepth 100000 in
set_option maxHeartbeats 4000000 in
theorem w_Jx4a65c_grow_92f84_b20 {G : GE} {p : Program} (l : Launch) {e : Env} {s : State} {m : MethodId} {args : Array Value} {below : List Frame} {meth : Method} {c : Code} {rr : Nat} {hh : PH} (X : Cx G p s m args meth c cJx4a65c_grow_92f84 4 RJx4a65c "grow" (some (.array (.object "java/lang/Object")))) (x0 : Nat) (x1 : Int32) (x2 : Int32) (h : PH) (H : Heap) (locs : List Loc) (ls : Array Slot) (hH : Hx G s h H locs) (hl : lv_has ls 4 [(0, .ref x0), (1, .int x1), (2, .int x2)]) (hf : f_Jx4a65c_grow_92f84_b20 G x0 x1 x2 h = some (rr, hh)) : W p l e rm_Jx4a65c_grow_92f84 s m args below meth c H locs 0 0 (Fq G (some (.ref rr)) hh below args s rm_Jx4a65c_grow_92f84.cells rm_Jx4a65c_grow_92f84.slots) (F0 m 20 ls []) := by
  have hx := X.1
  have hb := X.2.1
  unfold f_Jx4a65c_grow_92f84_b20 at hf
  refine lv_iload_n hx hb dJx4a65c_grow_92f84_20 rfl (lv_at hl 2 rfl) ?_
  refine lv_iload_n hx hb dJx4a65c_grow_92f84_21 rfl (lv_at hl 1 rfl) ?_
  refine lv_iload_n hx hb dJx4a65c_grow_92f84_22 rfl (lv_at hl 2 rfl) ?_
  refine lv_isub hx hb dJx4a65c_grow_92f84_23 ?_
  refine lv_iload_n hx hb dJx4a65c_grow_92f84_24 rfl (lv_at hl 2 rfl) ?_
  refine lv_iconst (v := 1) hx hb dJx4a65c_grow_92f84_25 (by decide) ?_
  refine lv_ishr hx hb dJx4a65c_grow_92f84_26 ?_
  refine p_cSI (As := [.int x2, .int (x1 - x2), .int (x2 >>> ((1 : Int32) &&& 31))]) (rest := []) X hH hf (fun _ _ e_ => c_J8_newLength_cabcc l G x2 (x1 - x2) (x2 >>> ((1 : Int32) &&& 31)) h _ _ e_) ms_J8_newLength_cabcc lk_RJx4a65c_73 (by decide) rfl hl.1 (Nat.le_of_ble_eq_true rfl) dJx4a65c_grow_92f84_27 (c2 := 0) (s2 := 0) (by decide) (fun v5 h H locs hH hf => ?_)
  refine lv_istore_n (lv' := [(3, .int v5), (0, .ref x0), (1, .int x1), (2, .int x2)]) hx hb dJx4a65c_grow_92f84_30 rfl hl (by decide) rfl (fun ls hl => ?_)
  refine lv_aload_n hx hb dJx4a65c_grow_92f84_31 rfl (lv_at hl 1 rfl) ?_
  refine lv_aload_n hx hb dJx4a65c_grow_92f84_32 rfl (lv_at hl 1 rfl) ?_
  refine p_getR X hH fg_RJx4a65c_9 hf dJx4a65c_grow_92f84_33 (fun v6 _ hf => ?_)
  refine lv_iload_n hx hb dJx4a65c_grow_92f84_36 rfl (lv_at hl 0 rfl) ?_
  refine p_cSR (As := [.ref v6, .int v5]) (rest := [.ref x0]) X hH hf (fun _ _ e_ => c_J7_copyOf_1904c l G v6 v5 h _ _ e_) ms_J7_copyOf_1904c lk_RJx4a65c_66 (by decide) rfl hl.1 (Nat.le_of_ble_eq_true rfl) dJx4a65c_grow_92f84_37 (c2 := 1) (s2 := 48) (by decide) (fun v7 h H locs hH hf => ?_)
  refine lv_dup_x1 hx hb dJx4a65c_grow_92f84_40 rfl rfl ?_
  refine p_put X hH fp_RJx4a65c_9 rfl rfl hf dJx4a65c_grow_92f84_41 (fun h H locs hH hf => ?_)
  exact p_aret X (by first | exact Or.inl ⟨_, rfl⟩ | exact Or.inr ⟨_, rfl⟩) hH hf (by decide) (by decide) dJx4a65c_grow_92f84_44
set_option maxRecDepth 100000 in
set_option maxHeartbeats 4000000 in
theorem c_Jx4a65c_grow_92f84 (l : Launch) (G : GE) (x0 : Nat) (x1 : Int32) (h : PH) (rr : Nat) (hh : PH) (hf : f_Jx4a65c_grow_92f84 G x0 x1 h = some (rr, hh)) : Ct l yJx4a65c_grow_92f84 cJx4a65c_grow_92f84 4 (some (.array (.object "java/lang/Object"))) rm_Jx4a65c_grow_92f84 G [.ref x0, .int x1] h (some (.ref rr)) hh := by
  refine Ct.of (plainFor_of_name (by decide)) (Nat.le_of_ble_eq_true rfl) ?_
  intro p e s m args below meth c ls X hH hl
  have hl : lv_has ls 4 [(0, .ref x0), (1, .int x1)] := hl
  have X : Cx G p s m args meth c cJx4a65c_grow_92f84 4 RJx4a65c "grow" (some (.array (.object "java/lang/Object"))) := X
  have hx := X.1
  have hb := X.2.1
  unfold f_Jx4a65c_grow_92f84 at hf
  obtain ⟨H, hHe⟩ : ∃ z, z = s.heap := ⟨_, rfl⟩
  obtain ⟨locs, hLe⟩ : ∃ z, z = ([] : List Loc) := ⟨_, rfl⟩
  rw [← hHe, ← hLe] at hH
  rw [← hHe, ← hLe]
  refine lv_aload_n hx hb dJx4a65c_grow_92f84_0 rfl (lv_at hl 0 rfl) ?_
  refine p_getR X hH fg_RJx4a65c_9 hf dJx4a65c_grow_92f84_1 (fun v1 _ hf => ?_)
  refine p_alen X hH hf dJx4a65c_grow_92f84_4 (fun v2 _ hf => ?_)
  refine lv_istore_n (lv' := [(2, .int v2), (0, .ref x0), (1, .int x1)]) hx hb dJx4a65c_grow_92f84_5 rfl hl (by decide) rfl (fun ls hl => ?_)
  refine lv_iload_n hx hb dJx4a65c_grow_92f84_6 rfl (lv_at hl 0 rfl) ?_
  refine p_if_gt X hf dJx4a65c_grow_92f84_7 (tgt := 20) (by decide) (fun _ hf => ?_) (fun _ hf => ?_)
  · exact w_Jx4a65c_grow_92f84_b20 l X x0 x1 v2 h H locs ls hH (lv_sub hl [1, 2, 0] rfl) hf
  · refine lv_aload_n hx hb dJx4a65c_grow_92f84_10 rfl (lv_at hl 1 rfl) ?_
    refine p_getR X hH fg_RJx4a65c_9 hf dJx4a65c_grow_92f84_11 (fun v3 _ hf => ?_)
    refine p_stat X hH X.2.2.2.2.2.1.2.1.2.2 m_101 dJx4a65c_grow_92f84_14 ?_
    refine p_acmp_eq X hf dJx4a65c_grow_92f84_17 (tgt := 45) (by decide) (fun _ hf => ?_) (fun _ hf => ?_)
    · refine lv_aload_n hx hb dJx4a65c_grow_92f84_45 rfl (lv_at hl 1 rfl) ?_
      refine lv_bipush (v := 10) hx hb dJx4a65c_grow_92f84_46 (by decide) ?_
      refine lv_iload_n hx hb dJx4a65c_grow_92f84_48 rfl (lv_at hl 2 rfl) ?_
      refine p_max X m_186 m_148 m_39 m_149 hl.1 (by decide) (Nat.le_of_ble_eq_true rfl) (by decide) (by decide) dJx4a65c_grow_92f84_49 ?_
      refine p_newR X hH m_187 (B := 48) (by decide) (by decide) (by decide) hf dJx4a65c_grow_92f84_52 (fun q4 h H hH hf => ?_)
      refine W.widen (k := 1) (n := 48) (by decide) (by decide) ?_
      refine lv_dup_x1 hx hb dJx4a65c_grow_92f84_55 rfl rfl ?_
      refine p_put X hH fp_RJx4a65c_9 rfl rfl hf dJx4a65c_grow_92f84_56 (fun h H locs hH hf => ?_)
      exact p_aret X (by first | exact Or.inl ⟨_, rfl⟩ | exact Or.inr ⟨_, rfl⟩) hH hf (by decide) (by decide) dJx4a65c_grow_92f84_59
    · exact w_Jx4a65c_grow_92f84_b20 l X x0 x1 v2 h H locs ls hH (lv_sub hl [1, 2, 0] rfl) hf
set_option maxRecDepth 100000 in
set_option maxHeartbeats 4000000 in
theorem c_Jx4a65c_grow_d5877 (l : Launch) (G : GE) (x0 : Nat) (h : PH) (rr : Nat) (hh : PH) (hf : f_Jx4a65c_grow_d5877 G x0 h = some (rr, hh)) : Ct l yJx4a65c_grow_d5877 cJx4a65c_grow_d5877 1 (some (.array (.object "java/lang/Object"))) rm_Jx4a65c_grow_d5877 G [.ref x0] h (some (.ref rr)) hh := by
  refine Ct.of (plainFor_of_name (by decide)) (Nat.le_of_ble_eq_true rfl) ?_
  intro p e s m args below meth c ls X hH hl
  have hl : lv_has ls 1 [(0, .ref x0)] := hl
  have X : Cx G p s m args meth c cJx4a65c_grow_d5877 1 RJx4a65c "grow" (some (.array (.object "java/lang/Object"))) := X
  have hx := X.1
  have hb := X.2.1
  unfold f_Jx4a65c_grow_d5877 at hf
  obtain ⟨H, hHe⟩ : ∃ z, z = s.heap := ⟨_, rfl⟩
  obtain ⟨locs, hLe⟩ : ∃ z, z = ([] : List Loc) := ⟨_, rfl⟩
  rw [← hHe, ← hLe] at hH
  rw [← hHe, ← hLe]
  refine lv_aload_n hx hb dJx4a65c_grow_d5877_0 rfl (lv_at hl 0 rfl) ?_
  refine lv_aload_n hx hb dJx4a65c_grow_d5877_1 rfl (lv_at hl 0 rfl) ?_
  refine p_getI X hH fg_RJx4a65c_48 hf dJx4a65c_grow_d5877_2 (fun v1 _ hf => ?_)
  refine lv_iconst (v := 1) hx hb dJx4a65c_grow_d5877_5 (by decide) ?_
  refine lv_iadd hx hb dJx4a65c_grow_d5877_6 ?_
  refine p_cVR (As := [.int (v1 + (1 : Int32))]) (b := x0) (rest := []) (ci := 0) X hH rfl hf (fun _ _ e_ => c_Jx4a65c_grow_92f84 l G x0 (v1 + (1 : Int32)) h _ _ e_) mv_Jx4a65c_grow_92f84 lk_RJx4a65c_69 (by decide) rfl hl.1 (Nat.le_of_ble_eq_true rfl) dJx4a65c_grow_d5877_7 (c2 := 1) (s2 := 48) (by decide) (fun v2 h H locs hH hf => ?_)
  exact p_aret X (by first | exact Or.inl ⟨_, rfl⟩ | exact Or.inr ⟨_, rfl⟩) hH hf (by decide) (by decide) dJx4a65c_grow_d5877_10
set_option maxRecDepth 100000 in
set_option maxHeartbeats 4000000 in
theorem w_Jx4a65c_add_72be8_b11 {G : GE} {p : Program} (l : Launch) {e : Env} {s : State} {m : MethodId} {args : Array Value} {below : List Frame} {meth : Method} {c : Code} {rr : Unit} {hh : PH} (X : Cx G p s m args meth c cJx4a65c_add_72be8 4 RJx4a65c "add" none) (x0 : Nat) (x1 : Nat) (x2 : Nat) (x3 : Int32) (h : PH) (H : Heap) (locs : List Loc) (ls : Array Slot) (hH : Hx G s h H locs) (hl : lv_has ls 4 [(0, .ref x0), (1, .ref x1), (2, .ref x2), (3, .int x3)]) (hf : f_Jx4a65c_add_72be8_b11 G x0 x1 x2 x3 h = some (rr, hh)) : W p l e rm_Jx4a65c_add_72be8 s m args below meth c H locs 1 48 (Fq G none hh below args s rm_Jx4a65c_add_72be8.cells rm_Jx4a65c_add_72be8.slots) (F0 m 11 ls []) := by
  have hx := X.1
  have hb := X.2.1
  unfold f_Jx4a65c_add_72be8_b11 at hf
  refine lv_aload_n hx hb dJx4a65c_add_72be8_11 rfl (lv_at hl 2 rfl) ?_
  refine lv_iload_n hx hb dJx4a65c_add_72be8_12 rfl (lv_at hl 3 rfl) ?_
  refine lv_aload_n hx hb dJx4a65c_add_72be8_13 rfl (lv_at hl 1 rfl) ?_
  obtain ⟨_, ho_, hf⟩ := rd_some hf
  refine p_aast X hH ho_ hf dJx4a65c_add_72be8_14 vw_ob (fun h H locs hH hf => ?_)
  refine lv_aload_n hx hb dJx4a65c_add_72be8_15 rfl (lv_at hl 0 rfl) ?_
  refine lv_iload_n hx hb dJx4a65c_add_72be8_16 rfl (lv_at hl 3 rfl) ?_
  refine lv_iconst (v := 1) hx hb dJx4a65c_add_72be8_17 (by decide) ?_
  refine lv_iadd hx hb dJx4a65c_add_72be8_18 ?_
  refine p_put X hH fp_RJx4a65c_48 rfl rfl hf dJx4a65c_add_72be8_19 (fun h H locs hH hf => ?_)
  exact p_vret X hH hf (by decide) (by decide) dJx4a65c_add_72be8_22
set_option maxRecDepth 100000 in
set_option maxHeartbeats 4000000 in
theorem c_Jx4a65c_add_72be8 (l : Launch) (G : GE) (x0 : Nat) (x1 : Nat) (x2 : Nat) (x3 : Int32) (h : PH) (rr : Unit) (hh : PH) (hf : f_Jx4a65c_add_72be8 G x0 x1 x2 x3 h = some (rr, hh)) : Ct l yJx4a65c_add_72be8 cJx4a65c_add_72be8 4 none rm_Jx4a65c_add_72be8 G [.ref x0, .ref x1, .ref x2, .int x3] h none hh := by
  refine Ct.of (plainFor_of_name (by decide)) (Nat.le_of_ble_eq_true rfl) ?_
  intro p e s m args below meth c ls X hH hl
  have hl : lv_has ls 4 [(0, .ref x0), (1, .ref x1), (2, .ref x2), (3, .int x3)] := hl
  have X : Cx G p s m args meth c cJx4a65c_add_72be8 4 RJx4a65c "add" none := X
  have hx := X.1
  have hb := X.2.1
  unfold f_Jx4a65c_add_72be8 at hf
  obtain ⟨H, hHe⟩ : ∃ z, z = s.heap := ⟨_, rfl⟩
  obtain ⟨locs, hLe⟩ : ∃ z, z = ([] : List Loc) := ⟨_, rfl⟩
  rw [← hHe, ← hLe] at hH
  rw [← hHe, ← hLe]
  refine lv_iload_n hx hb dJx4a65c_add_72be8_0 rfl (lv_at hl 3 rfl) ?_
  refine lv_aload_n hx hb dJx4a65c_add_72be8_1 rfl (lv_at hl 2 rfl) ?_
  refine p_alen X hH hf dJx4a65c_add_72be8_2 (fun v1 _ hf => ?_)
  refine p_icmp_ne X hf dJx4a65c_add_72be8_3 (tgt := 11) (by decide) (fun _ hf => ?_) (fun _ hf => ?_)
  · refine W.widen (k := 1) (n := 48) (by decide) (by decide) ?_
    exact w_Jx4a65c_add_72be8_b11 l X x0 x1 x2 x3 h H locs ls hH (lv_sub hl [0, 1, 2, 3] rfl) hf
  · refine lv_aload_n hx hb dJx4a65c_add_72be8_6 rfl (lv_at hl 0 rfl) ?_
    refine p_cVR (As := []) (b := x0) (rest := []) (ci := 0) X hH rfl hf (fun _ _ e_ => c_Jx4a65c_grow_d5877 l G x0 h _ _ e_) mv_Jx4a65c_grow_d5877 lk_RJx4a65c_129 (by decide) rfl hl.1 (Nat.le_of_ble_eq_true rfl) dJx4a65c_add_72be8_7 (c2 := 1) (s2 := 48) (by decide) (fun v2 h H locs hH hf => ?_)
    refine lv_astore_n (lv' := [(2, .ref v2), (0, .ref x0), (1, .ref x1), (3, .int x3)]) hx hb dJx4a65c_add_72be8_10 rfl hl (by decide) rfl (fun ls hl => ?_)
    exact w_Jx4a65c_add_72be8_b11 l X x0 x1 v2 x3 h H locs ls hH (lv_sub hl [1, 2, 0, 3] rfl) hf
set_option maxRecDepth 100000 in
set_option maxHeartbeats 4000000 in
theorem c_Jx4a65c_add_9ea2d (l : Launch) (G : GE) (x0 : Nat) (x1 : Nat) (h : PH) (rr : Int32) (hh : PH) (hf : f_Jx4a65c_add_9ea2d G x0 x1 h = some (rr, hh)) : Ct l yJx4a65c_add_9ea2d cJx4a65c_add_9ea2d 2 (some .boolean) rm_Jx4a65c_add_9ea2d G [.ref x0, .ref x1] h (some (.int rr)) hh := by
  refine Ct.of (plainFor_of_name (by decide)) (Nat.le_of_ble_eq_true rfl) ?_
  intro p e s m args below meth c ls X hH hl
  have hl : lv_has ls 2 [(0, .ref x0), (1, .ref x1)] := hl
  have X : Cx G p s m args meth c cJx4a65c_add_9ea2d 2 RJx4a65c "add" (some .boolean) := X
  have hx := X.1
  have hb := X.2.1
  unfold f_Jx4a65c_add_9ea2d at hf
  obtain ⟨H, hHe⟩ : ∃ z, z = s.heap := ⟨_, rfl⟩
  obtain ⟨locs, hLe⟩ : ∃ z, z = ([] : List Loc) := ⟨_, rfl⟩
  rw [← hHe, ← hLe] at hH
  rw [← hHe, ← hLe]
  refine lv_aload_n hx hb dJx4a65c_add_9ea2d_0 rfl (lv_at hl 0 rfl) ?_
  refine lv_dup hx hb dJx4a65c_add_9ea2d_1 rfl ?_
  refine p_getI X hH fg_RJx4a65c_63 hf dJx4a65c_add_9ea2d_2 (fun v1 _ hf => ?_)
  refine lv_iconst (v := 1) hx hb dJx4a65c_add_9ea2d_5 (by decide) ?_
  refine lv_iadd hx hb dJx4a65c_add_9ea2d_6 ?_
  refine p_put X hH fp_RJx4a65c_63 rfl rfl hf dJx4a65c_add_9ea2d_7 (fun h H locs hH hf => ?_)
  refine lv_aload_n hx hb dJx4a65c_add_9ea2d_10 rfl (lv_at hl 0 rfl) ?_
  refine lv_aload_n hx hb dJx4a65c_add_9ea2d_11 rfl (lv_at hl 1 rfl) ?_
  refine lv_aload_n hx hb dJx4a65c_add_9ea2d_12 rfl (lv_at hl 0 rfl) ?_
  refine p_getR X hH fg_RJx4a65c_9 hf dJx4a65c_add_9ea2d_13 (fun v2 _ hf => ?_)
  refine lv_aload_n hx hb dJx4a65c_add_9ea2d_16 rfl (lv_at hl 0 rfl) ?_
  refine p_getI X hH fg_RJx4a65c_48 hf dJx4a65c_add_9ea2d_17 (fun v3 _ hf => ?_)
  refine p_cVV (As := [.ref x1, .ref v2, .int v3]) (b := x0) (rest := []) (ci := 0) X hH rfl hf (fun _ _ e_ => c_Jx4a65c_add_72be8 l G x0 x1 v2 v3 h _ _ e_) mv_Jx4a65c_add_72be8 lk_RJx4a65c_131 (by decide) rfl hl.1 (Nat.le_of_ble_eq_true rfl) dJx4a65c_add_9ea2d_20 (c2 := 1) (s2 := 48) (by decide) (fun _ h H locs hH hf => ?_)
  refine lv_iconst (v := 1) hx hb dJx4a65c_add_9ea2d_23 (by decide) ?_
  exact p_zret X hH hf (by decide) (by decide) dJx4a65c_add_9ea2d_24
set_option maxRecDepth 100000 in
set_option maxHeartbeats 4000000 in
theorem c_X6_init (l : Launch) (G : GE) (x0 : Nat) (h : PH) (rr : Unit) (hh : PH) (hf : f_X6_init G x0 h = some (rr, hh)) : Ct l yX6_init cX6_init 1 none rm_X6_init G [.ref x0] h none hh := by
  refine Ct.of (plainFor_of_name (by decide)) (Nat.le_of_ble_eq_true rfl) ?_
  intro p e s m args below meth c ls X hH hl
  have hl : lv_has ls 1 [(0, .ref x0)] := hl
  have X : Cx G p s m args meth c cX6_init 1 RX6 "<init>" none := X
  have hx := X.1
  have hb := X.2.1
  unfold f_X6_init at hf
  obtain ⟨H, hHe⟩ : ∃ z, z = s.heap := ⟨_, rfl⟩
  obtain ⟨locs, hLe⟩ : ∃ z, z = ([] : List Loc) := ⟨_, rfl⟩
  rw [← hHe, ← hLe] at hH
  rw [← hHe, ← hLe]
  refine lv_aload_n hx hb dX6_init_0 rfl (lv_at hl 0 rfl) ?_
  refine p_oinit X m_62 m_63 m_64 hl.1 dX6_init_1 (by decide) (Nat.le_of_ble_eq_true rfl) ?_
  refine lv_aload_n hx hb dX6_init_4 rfl (lv_at hl 0 rfl) ?_
  refine p_new X hH fn_RX6_7 (by decide) (by decide) hf dX6_init_5 (fun q1 h H hH hf => ?_)
  refine W.widen (k := 1) (n := 4) (by decide) (by decide) ?_
  refine lv_dup hx hb dX6_init_8 rfl ?_
  refine lv_iconst (v := 0) hx hb dX6_init_9 (by decide) ?_
  refine lv_iconst (v := 5) hx hb dX6_init_10 (by decide) ?_
  refine lv_iconst (v := 0) hx hb dX6_init_11 (by decide) ?_
  refine p_cIV (As := [.int (0 : Int32), .int (5 : Int32), .int (0 : Int32)]) (b := q1) (rest := [.ref q1, .ref x0]) X hH hf (fun _ _ e_ => c_X5_init l G q1 (0 : Int32) (5 : Int32) (0 : Int32) h _ _ e_) mi_X5_init lk_RX6_9 (by decide) rfl hl.1 (Nat.le_of_ble_eq_true rfl) dX6_init_12 (c2 := 1) (s2 := 4) (by decide) (fun _ h H locs hH hf => ?_)
  refine p_put X hH fp_RX6_12 rfl rfl hf dX6_init_15 (fun h H locs hH hf => ?_)
  refine lv_aload_n hx hb dX6_init_18 rfl (lv_at hl 0 rfl) ?_
  refine p_new X hH fn_RX6_18 (by decide) (by decide) hf dX6_init_19 (fun q2 h H hH hf => ?_)
  refine W.widen (k := 2) (n := 7) (by decide) (by decide) ?_
  refine lv_dup hx hb dX6_init_22 rfl ?_
  refine p_cIV (As := []) (b := q2) (rest := [.ref q2, .ref x0]) X hH hf (fun _ _ e_ => c_Jx4a65c_init_da8c8 l G q2 h _ _ e_) mi_Jx4a65c_init_da8c8 lk_RX6_20 (by decide) rfl hl.1 (Nat.le_of_ble_eq_true rfl) dX6_init_23 (c2 := 2) (s2 := 7) (by decide) (fun _ h H locs hH hf => ?_)
  refine p_put X hH fp_RX6_21 rfl rfl hf dX6_init_26 (fun h H locs hH hf => ?_)
  refine lv_aload_n hx hb dX6_init_29 rfl (lv_at hl 0 rfl) ?_
  refine p_new X hH fn_RX6_18 (by decide) (by decide) hf dX6_init_30 (fun q3 h H hH hf => ?_)
  refine W.widen (k := 3) (n := 10) (by decide) (by decide) ?_
  refine lv_dup hx hb dX6_init_33 rfl ?_
  refine p_cIV (As := []) (b := q3) (rest := [.ref q3, .ref x0]) X hH hf (fun _ _ e_ => c_Jx4a65c_init_da8c8 l G q3 h _ _ e_) mi_Jx4a65c_init_da8c8 lk_RX6_20 (by decide) rfl hl.1 (Nat.le_of_ble_eq_true rfl) dX6_init_34 (c2 := 3) (s2 := 10) (by decide) (fun _ h H locs hH hf => ?_)
  refine p_put X hH fp_RX6_25 rfl rfl hf dX6_init_37 (fun h H locs hH hf => ?_)
  refine lv_aload_n hx hb dX6_init_40 rfl (lv_at hl 0 rfl) ?_
  refine p_new X hH fn_RX6_18 (by decide) (by decide) hf dX6_init_41 (fun q4 h H hH hf => ?_)
  refine W.widen (k := 4) (n := 13) (by decide) (by decide) ?_
  refine lv_dup hx hb dX6_init_44 rfl ?_
  refine p_cIV (As := []) (b := q4) (rest := [.ref q4, .ref x0]) X hH hf (fun _ _ e_ => c_Jx4a65c_init_da8c8 l G q4 h _ _ e_) mi_Jx4a65c_init_da8c8 lk_RX6_20 (by decide) rfl hl.1 (Nat.le_of_ble_eq_true rfl) dX6_init_45 (c2 := 4) (s2 := 13) (by decide) (fun _ h H locs hH hf => ?_)
  refine p_put X hH fp_RX6_28 rfl rfl hf dX6_init_48 (fun h H locs hH hf => ?_)
  refine lv_aload_n hx hb dX6_init_51 rfl (lv_at hl 0 rfl) ?_
  refine p_new X hH fn_RX6_31 (by decide) (by decide) hf dX6_init_52 (fun q5 h H hH hf => ?_)
  refine W.widen (k := 5) (n := 14) (by decide) (by decide) ?_
  refine lv_dup hx hb dX6_init_55 rfl ?_
  refine p_cIV (As := []) (b := q5) (rest := [.ref q5, .ref x0]) X hH hf (fun _ _ e_ => c_X3_init l G q5 h _ _ e_) mi_X3_init lk_RX6_33 (by decide) rfl hl.1 (Nat.le_of_ble_eq_true rfl) dX6_init_56 (c2 := 6) (s2 := 17) (by decide) (fun _ h H locs hH hf => ?_)
  refine p_put X hH fp_RX6_34 rfl rfl hf dX6_init_59 (fun h H locs hH hf => ?_)
  refine lv_aload_n hx hb dX6_init_62 rfl (lv_at hl 0 rfl) ?_
  refine p_new X hH fn_RX6_31 (by decide) (by decide) hf dX6_init_63 (fun q6 h H hH hf => ?_)
  refine W.widen (k := 7) (n := 18) (by decide) (by decide) ?_
  refine lv_dup hx hb dX6_init_66 rfl ?_
  refine p_cIV (As := []) (b := q6) (rest := [.ref q6, .ref x0]) X hH hf (fun _ _ e_ => c_X3_init l G q6 h _ _ e_) mi_X3_init lk_RX6_33 (by decide) rfl hl.1 (Nat.le_of_ble_eq_true rfl) dX6_init_67 (c2 := 8) (s2 := 21) (by decide) (fun _ h H locs hH hf => ?_)
  refine p_put X hH fp_RX6_38 rfl rfl hf dX6_init_70 (fun h H locs hH hf => ?_)
  refine lv_aload_n hx hb dX6_init_73 rfl (lv_at hl 0 rfl) ?_
  refine p_getR X hH fg_RX6_21 hf dX6_init_74 (fun v7 _ hf => ?_)
  refine lv_aload_n hx hb dX6_init_77 rfl (lv_at hl 0 rfl) ?_
  refine p_getR X hH fg_RX6_12 hf dX6_init_78 (fun v8 _ hf => ?_)
  refine p_cVI (As := [.ref v8]) (b := v7) (rest := []) (ci := 0) X hH rfl hf (fun _ _ e_ => c_Jx4a65c_add_9ea2d l G v7 v8 h _ _ e_) mv_Jx4a65c_add_9ea2d lk_RX6_41 (by decide) rfl hl.1 (Nat.le_of_ble_eq_true rfl) dX6_init_81 (c2 := 9) (s2 := 69) (by decide) (fun v9 h H locs hH hf => ?_)
  refine lv_pop hx hb dX6_init_84 rfl ?_
  exact p_vret X hH hf (by decide) (by decide) dX6_init_85
set_option maxRecDepth 100000 in
set_option maxHeartbeats 4000000 in
theorem w_X6_isDirection_b15 {G : GE} {p : Program} (l : Launch) {e : Env} {s : State} {m : MethodId} {args : Array Value} {below : List Frame} {meth : Method} {c : Code} {rr : Int32} {hh : PH} (X : Cx G p s m args meth c cX6_isDirection 1 RX6 "isDirection" (some .boolean)) (t0 : Int32) (h : PH) (H : Heap) (locs : List Loc) (ls : Array Slot) (hH : Hx G s h H locs) (hl : lv_has ls 1 []) (hf : f_X6_isDirection_b15 G t0 h = some (rr, hh)) : W p l e rm_X6_isDirection s m args below meth c H locs 0 0 (Fq G (some (.int rr)) hh below args s rm_X6_isDirection.cells rm_X6_isDirection.slots) (F0 m 15 ls [.int t0]) := by
  have hx := X.1
  have hb := X.2.1
  unfold f_X6_isDirection_b15 at hf
  exact p_zret X hH hf (by decide) (by decide) dX6_isDirection_15
set_option maxRecDepth 100000 in
set_option maxHeartbeats 4000000 in
theorem w_X6_isDirection_b14 {G : GE} {p : Program} (l : Launch) {e : Env} {s : State} {m : MethodId} {args : Array Value} {below : List Frame} {meth : Method} {c : Code} {rr : Int32} {hh : PH} (X : Cx G p s m args meth c cX6_isDirection 1 RX6 "isDirection" (some .boolean))  (h : PH) (H : Heap) (locs : List Loc) (ls : Array Slot) (hH : Hx G s h H locs) (hl : lv_has ls 1 []) (hf : f_X6_isDirection_b14 G  h = some (rr, hh)) : W p l e rm_X6_isDirection s m args below meth c H locs 0 0 (Fq G (some (.int rr)) hh below args s rm_X6_isDirection.cells rm_X6_isDirection.slots) (F0 m 14 ls []) := by
  have hx := X.1
  have hb := X.2.1
  unfold f_X6_isDirection_b14 at hf
  refine lv_iconst (v := 0) hx hb dX6_isDirection_14 (by decide) ?_
  exact w_X6_isDirection_b15 l X (0 : Int32) h H locs ls hH (lv_sub hl [] rfl) hf
set_option maxRecDepth 100000 in
set_option maxHeartbeats 4000000 in
theorem c_X6_isDirection (l : Launch) (G : GE) (x0 : Int32) (h : PH) (rr : Int32) (hh : PH) (hf : f_X6_isDirection G x0 h = some (rr, hh)) : Ct l yX6_isDirection cX6_isDirection 1 (some .boolean) rm_X6_isDirection G [.int x0] h (some (.int rr)) hh := by
  refine Ct.of (plainFor_of_name (by decide)) (Nat.le_of_ble_eq_true rfl) ?_
  intro p e s m args below meth c ls X hH hl
  have hl : lv_has ls 1 [(0, .int x0)] := hl
  have X : Cx G p s m args meth c cX6_isDirection 1 RX6 "isDirection" (some .boolean) := X
  have hx := X.1
  have hb := X.2.1
  unfold f_X6_isDirection at hf
  obtain ⟨H, hHe⟩ : ∃ z, z = s.heap := ⟨_, rfl⟩
  obtain ⟨locs, hLe⟩ : ∃ z, z = ([] : List Loc) := ⟨_, rfl⟩
  rw [← hHe, ← hLe] at hH
  rw [← hHe, ← hLe]
  refine lv_iload_n hx hb dX6_isDirection_0 rfl (lv_at hl 0 rfl) ?_
  refine p_if_lt X hf dX6_isDirection_1 (tgt := 14) (by decide) (fun _ hf => ?_) (fun _ hf => ?_)
  · exact w_X6_isDirection_b14 l X  h H locs ls hH (lv_sub hl [] rfl) hf
  · refine lv_iload_n hx hb dX6_isDirection_4 rfl (lv_at hl 0 rfl) ?_
    refine lv_bipush (v := 16) hx hb dX6_isDirection_5 (by decide) ?_
    refine p_icmp_ge X hf dX6_isDirection_7 (tgt := 14) (by decide) (fun _ hf => ?_) (fun _ hf => ?_)
    · exact w_X6_isDirection_b14 l X  h H locs ls hH (lv_sub hl [] rfl) hf
    · refine lv_iconst (v := 1) hx hb dX6_isDirection_10 (by decide) ?_
      refine lv_goto (tgt := 15) hx hb dX6_isDirection_11 (by decide) ?_
      exact w_X6_isDirection_b15 l X (1 : Int32) h H locs ls hH (lv_sub hl [] rfl) hf
set_option maxRecDepth 100000 in
set_option maxHeartbeats 4000000 in
theorem w_X6_isWithin_b15 {G : GE} {p : Program} (l : Launch) {e : Env} {s : State} {m : MethodId} {args : Array Value} {below : List Frame} {meth : Method} {c : Code} {rr : Int32} {hh : PH} (X : Cx G p s m args meth c cX6_isWithin 3 RX6 "isWithin" (some .boolean)) (t0 : Int32) (h : PH) (H : Heap) (locs : List Loc) (ls : Array Slot) (hH : Hx G s h H locs) (hl : lv_has ls 3 []) (hf : f_X6_isWithin_b15 G t0 h = some (rr, hh)) : W p l e rm_X6_isWithin s m args below meth c H locs 0 0 (Fq G (some (.int rr)) hh below args s rm_X6_isWithin.cells rm_X6_isWithin.slots) (F0 m 15 ls [.int t0]) := by
  have hx := X.1
  have hb := X.2.1
  unfold f_X6_isWithin_b15 at hf
  exact p_zret X hH hf (by decide) (by decide) dX6_isWithin_15
set_option maxRecDepth 100000 in
set_option maxHeartbeats 4000000 in
theorem w_X6_isWithin_b14 {G : GE} {p : Program} (l : Launch) {e : Env} {s : State} {m : MethodId} {args : Array Value} {below : List Frame} {meth : Method} {c : Code} {rr : Int32} {hh : PH} (X : Cx G p s m args meth c cX6_isWithin 3 RX6 "isWithin" (some .boolean))  (h : PH) (H : Heap) (locs : List Loc) (ls : Array Slot) (hH : Hx G s h H locs) (hl : lv_has ls 3 []) (hf : f_X6_isWithin_b14 G  h = some (rr, hh)) : W p l e rm_X6_isWithin s m args below meth c H locs 0 0 (Fq G (some (.int rr)) hh below args s rm_X6_isWithin.cells rm_X6_isWithin.slots) (F0 m 14 ls []) := by
  have hx := X.1
  have hb := X.2.1
  unfold f_X6_isWithin_b14 at hf
  refine lv_iconst (v := 0) hx hb dX6_isWithin_14 (by decide) ?_
  exact w_X6_isWithin_b15 l X (0 : Int32) h H locs ls hH (lv_sub hl [] rfl) hf
set_option maxRecDepth 100000 in
set_option maxHeartbeats 4000000 in
theorem c_X6_isWithin (l : Launch) (G : GE) (x0 : Int32) (x1 : Int32) (x2 : Int32) (h : PH) (rr : Int32) (hh : PH) (hf : f_X6_isWithin G x0 x1 x2 h = some (rr, hh)) : Ct l yX6_isWithin cX6_isWithin 3 (some .boolean) rm_X6_isWithin G [.int x0, .int x1, .int x2] h (some (.int rr)) hh := by
  refine Ct.of (plainFor_of_name (by decide)) (Nat.le_of_ble_eq_true rfl) ?_
  intro p e s m args below meth c ls X hH hl
  have hl : lv_has ls 3 [(0, .int x0), (1, .int x1), (2, .int x2)] := hl
  have X : Cx G p s m args meth c cX6_isWithin 3 RX6 "isWithin" (some .boolean) := X
  have hx := X.1
  have hb := X.2.1
  unfold f_X6_isWithin at hf
  obtain ⟨H, hHe⟩ : ∃ z, z = s.heap := ⟨_, rfl⟩
  obtain ⟨locs, hLe⟩ : ∃ z, z = ([] : List Loc) := ⟨_, rfl⟩
  rw [← hHe, ← hLe] at hH
  rw [← hHe, ← hLe]
  refine lv_iload_n hx hb dX6_isWithin_0 rfl (lv_at hl 0 rfl) ?_
  refine lv_iload_n hx hb dX6_isWithin_1 rfl (lv_at hl 1 rfl) ?_
  refine p_icmp_lt X hf dX6_isWithin_2 (tgt := 14) (by decide) (fun _ hf => ?_) (fun _ hf => ?_)
  · exact w_X6_isWithin_b14 l X  h H locs ls hH (lv_sub hl [] rfl) hf
  · refine lv_iload_n hx hb dX6_isWithin_5 rfl (lv_at hl 0 rfl) ?_
    refine lv_iload_n hx hb dX6_isWithin_6 rfl (lv_at hl 2 rfl) ?_
    refine p_icmp_gt X hf dX6_isWithin_7 (tgt := 14) (by decide) (fun _ hf => ?_) (fun _ hf => ?_)
    · exact w_X6_isWithin_b14 l X  h H locs ls hH (lv_sub hl [] rfl) hf
    · refine lv_iconst (v := 1) hx hb dX6_isWithin_10 (by decide) ?_
      refine lv_goto (tgt := 15) hx hb dX6_isWithin_11 (by decide) ?_
      exact w_X6_isWithin_b15 l X (1 : Int32) h H locs ls hH (lv_sub hl [] rfl) hf
set_option maxRecDepth 100000 in
set_option maxHeartbeats 4000000 in
theorem w_Jx4a65c_clear_da8c8_b27 {G : GE} {p : Program} (l : Launch) {e : Env} {s : State} {m : MethodId} {args : Array Value} {below : List Frame} {meth : Method} {c : Code} {rr : Unit} {hh : PH} (X : Cx G p s m args meth c cJx4a65c_clear_da8c8 4 RJx4a65c "clear" none) : ∀ (n : Nat) (x1 : Nat) (x2 : Int32) (x3 : Int32) (h : PH) (H : Heap) (locs : List Loc) (ls : Array Slot) (hH : Hx G s h H locs) (hl : lv_has ls 4 [(1, .ref x1), (2, .int x2), (3, .int x3)]) (hf : f_Jx4a65c_clear_da8c8_b27 G n x1 x2 x3 h = some (rr, hh)), W p l e rm_Jx4a65c_clear_da8c8 s m args below meth c H locs 0 0 (Fq G none hh below args s rm_Jx4a65c_clear_da8c8.cells rm_Jx4a65c_clear_da8c8.slots) (F0 m 27 ls []) := by
  have hx := X.1
  have hb := X.2.1
  intro n
  induction n with
  | zero =>
    intro x1 x2 x3 h H locs ls hH hl hf
    have hf : (none : Option (Unit × PH)) = some (rr, hh) := hf
    cases hf
  | succ n ih =>
    intro x1 x2 x3 h H locs ls hH hl hf
    have hf : f_Jx4a65c_clear_da8c8_b27_body G (f_Jx4a65c_clear_da8c8_b27 G n) x1 x2 x3 h = some (rr, hh) := hf
    generalize f_Jx4a65c_clear_da8c8_b27 G n = k27 at hf ih
    have ik27 := ih
    unfold f_Jx4a65c_clear_da8c8_b27_body at hf
    refine lv_iload_n hx hb dJx4a65c_clear_da8c8_27 rfl (lv_at hl 2 rfl) ?_
    refine lv_iload_n hx hb dJx4a65c_clear_da8c8_28 rfl (lv_at hl 1 rfl) ?_
    refine p_icmp_ge X hf dJx4a65c_clear_da8c8_29 (tgt := 42) (by decide) (fun _ hf => ?_) (fun _ hf => ?_)
    · exact p_vret X hH hf (by decide) (by decide) dJx4a65c_clear_da8c8_42
    · refine lv_aload_n hx hb dJx4a65c_clear_da8c8_32 rfl (lv_at hl 0 rfl) ?_
      refine lv_iload_n hx hb dJx4a65c_clear_da8c8_33 rfl (lv_at hl 2 rfl) ?_
      refine lv_null hx hb dJx4a65c_clear_da8c8_34 ?_
      refine p_aastN X hH hf dJx4a65c_clear_da8c8_35 (fun h H locs hH hf => ?_)
      refine lv_iinc (v := (x3 + (1 : Int32))) (lv' := [(3, .int (x3 + (1 : Int32))), (1, .ref x1), (2, .int x2)]) hx hb dJx4a65c_clear_da8c8_36 hl (k := 2) rfl rfl (by decide) rfl (fun ls hl => ?_)
      refine lv_goto (tgt := 27) hx hb dJx4a65c_clear_da8c8_39 (by decide) ?_
      exact ik27 x1 x2 (x3 + (1 : Int32)) h H locs ls hH (lv_sub hl [1, 2, 0] rfl) hf
set_option maxRecDepth 100000 in
set_option maxHeartbeats 4000000 in
theorem c_Jx4a65c_clear_da8c8 (l : Launch) (G : GE) (x0 : Nat) (h : PH) (rr : Unit) (hh : PH) (hf : f_Jx4a65c_clear_da8c8 G x0 h = some (rr, hh)) : Ct l yJx4a65c_clear_da8c8 cJx4a65c_clear_da8c8 4 none rm_Jx4a65c_clear_da8c8 G [.ref x0] h none hh := by
  refine Ct.of (plainFor_of_name (by decide)) (Nat.le_of_ble_eq_true rfl) ?_
  intro p e s m args below meth c ls X hH hl
  have hl : lv_has ls 4 [(0, .ref x0)] := hl
  have X : Cx G p s m args meth c cJx4a65c_clear_da8c8 4 RJx4a65c "clear" none := X
  have hx := X.1
  have hb := X.2.1
  unfold f_Jx4a65c_clear_da8c8 at hf
  obtain ⟨H, hHe⟩ : ∃ z, z = s.heap := ⟨_, rfl⟩
  obtain ⟨locs, hLe⟩ : ∃ z, z = ([] : List Loc) := ⟨_, rfl⟩
  rw [← hHe, ← hLe] at hH
  rw [← hHe, ← hLe]
  refine lv_aload_n hx hb dJx4a65c_clear_da8c8_0 rfl (lv_at hl 0 rfl) ?_
  refine lv_dup hx hb dJx4a65c_clear_da8c8_1 rfl ?_
  refine p_getI X hH fg_RJx4a65c_63 hf dJx4a65c_clear_da8c8_2 (fun v1 _ hf => ?_)
  refine lv_iconst (v := 1) hx hb dJx4a65c_clear_da8c8_5 (by decide) ?_
  refine lv_iadd hx hb dJx4a65c_clear_da8c8_6 ?_
  refine p_put X hH fp_RJx4a65c_63 rfl rfl hf dJx4a65c_clear_da8c8_7 (fun h H locs hH hf => ?_)
  refine lv_aload_n hx hb dJx4a65c_clear_da8c8_10 rfl (lv_at hl 0 rfl) ?_
  refine p_getR X hH fg_RJx4a65c_9 hf dJx4a65c_clear_da8c8_11 (fun v2 _ hf => ?_)
  refine lv_astore_n (lv' := [(1, .ref v2), (0, .ref x0)]) hx hb dJx4a65c_clear_da8c8_14 rfl hl (by decide) rfl (fun ls hl => ?_)
  refine lv_aload_n hx hb dJx4a65c_clear_da8c8_15 rfl (lv_at hl 1 rfl) ?_
  refine p_getI X hH fg_RJx4a65c_48 hf dJx4a65c_clear_da8c8_16 (fun v3 _ hf => ?_)
  refine lv_istore_n (lv' := [(2, .int v3), (1, .ref v2), (0, .ref x0)]) hx hb dJx4a65c_clear_da8c8_19 rfl hl (by decide) rfl (fun ls hl => ?_)
  refine lv_aload_n hx hb dJx4a65c_clear_da8c8_20 rfl (lv_at hl 2 rfl) ?_
  refine lv_iconst (v := 0) hx hb dJx4a65c_clear_da8c8_21 (by decide) ?_
  refine lv_dup_x1 hx hb dJx4a65c_clear_da8c8_22 rfl rfl ?_
  refine p_put X hH fp_RJx4a65c_48 rfl rfl hf dJx4a65c_clear_da8c8_23 (fun h H locs hH hf => ?_)
  refine lv_istore_n (lv' := [(3, .int (0 : Int32)), (2, .int v3), (1, .ref v2), (0, .ref x0)]) hx hb dJx4a65c_clear_da8c8_26 rfl hl (by decide) rfl (fun ls hl => ?_)
  exact w_Jx4a65c_clear_da8c8_b27 l X LF v2 v3 (0 : Int32) h H locs ls hH (lv_sub hl [2, 1, 0] rfl) hf
set_option maxRecDepth 100000 in
set_option maxHeartbeats 4000000 in
theorem w_X6_beginWind_b17 {G : GE} {p : Program} (l : Launch) {e : Env} {s : State} {m : MethodId} {args : Array Value} {below : List Frame} {meth : Method} {c : Code} {rr : (Sum Int32 String)} {hh : PH} (X : Cx G p s m args meth c cX6_beginWind 5 RX6 "beginWind" (some .int)) (hfl : l.stackTraces = false) (hex : ∀ x ∈ c.exceptionTable.toList, False)  (h : PH) (H : Heap) (locs : List Loc) (ls : Array Slot) (hH : Hx G s h H locs) (hl : lv_has ls 5 []) (hf : f_X6_beginWind_b17 G  h = some (rr, hh)) : W p l e rm_X6_beginWind s m args below meth c H locs 0 0 (Xq G rr hh below args s rm_X6_beginWind.cells rm_X6_beginWind.slots) (F0 m 17 ls []) := by
  have hx := X.1
  have hb := X.2.1
  unfold f_X6_beginWind_b17 at hf
  exact p_thr_iae X hH (strs_55) hf hfl hex hl.1 (by decide) (by decide) (by decide) (by decide) (by decide) (by decide) dX6_beginWind_17 dX6_beginWind_20 dX6_beginWind_21 dX6_beginWind_23 dX6_beginWind_26
set_option maxRecDepth 100000 in
set_option maxHeartbeats 4000000 in
theorem c_X6_beginWind (l : Launch) (hfl : l.stackTraces = false) (G : GE) (x0 : Nat) (x1 : Int32) (x2 : Int32) (x3 : Int32) (h : PH) (rr : (Sum Int32 String)) (hh : PH) (hf : f_X6_beginWind G x0 x1 x2 x3 h = some (rr, hh)) : Xt l yX6_beginWind cX6_beginWind 5 rm_X6_beginWind G [.ref x0, .int x1, .int x2, .int x3] h rr hh := by
  refine Xt.of (by decide) (Nat.le_of_ble_eq_true rfl) ?_
  intro p e s m args below meth c ls X hex hH hl
  have hl : lv_has ls 5 [(0, .ref x0), (1, .int x1), (2, .int x2), (3, .int x3)] := hl
  have X : Cx G p s m args meth c cX6_beginWind 5 RX6 "beginWind" (some .int) := X
  have hx := X.1
  have hb := X.2.1
  unfold f_X6_beginWind at hf
  obtain ⟨H, hHe⟩ : ∃ z, z = s.heap := ⟨_, rfl⟩
  obtain ⟨locs, hLe⟩ : ∃ z, z = ([] : List Loc) := ⟨_, rfl⟩
  rw [← hHe, ← hLe] at hH
  rw [← hHe, ← hLe]
  refine lv_iload_n hx hb dX6_beginWind_0 rfl (lv_at hl 1 rfl) ?_
  refine p_cSI (As := [.int x1]) (rest := []) X hH hf (fun _ _ e_ => c_X6_isDirection l G x1 h _ _ e_) ms_X6_isDirection lk_RX6_45 (by decide) rfl hl.1 (Nat.le_of_ble_eq_true rfl) dX6_beginWind_1 (c2 := 0) (s2 := 0) (by decide) (fun v1 h H locs hH hf => ?_)
  refine p_if_eq X hf dX6_beginWind_4 (tgt := 17) (by decide) (fun _ hf => ?_) (fun _ hf => ?_)
  · exact w_X6_beginWind_b17 l X hfl hex  h H locs ls hH (lv_sub hl [] rfl) hf
  · refine lv_iload_n hx hb dX6_beginWind_7 rfl (lv_at hl 2 rfl) ?_
    refine lv_iconst (v := 0) hx hb dX6_beginWind_8 (by decide) ?_
    refine lv_bipush (v := 9) hx hb dX6_beginWind_9 (by decide) ?_
    refine p_cSI (As := [.int x2, .int (0 : Int32), .int (9 : Int32)]) (rest := []) X hH hf (fun _ _ e_ => c_X6_isWithin l G x2 (0 : Int32) (9 : Int32) h _ _ e_) ms_X6_isWithin lk_RX6_49 (by decide) rfl hl.1 (Nat.le_of_ble_eq_true rfl) dX6_beginWind_11 (c2 := 0) (s2 := 0) (by decide) (fun v2 h H locs hH hf => ?_)
    refine p_if_ne X hf dX6_beginWind_14 (tgt := 27) (by decide) (fun _ hf => ?_) (fun _ hf => ?_)
    · refine lv_aload_n hx hb dX6_beginWind_27 rfl (lv_at hl 0 rfl) ?_
      refine p_getR X hH fg_RX6_21 hf dX6_beginWind_28 (fun v3 _ hf => ?_)
      refine p_cVI (As := []) (b := v3) (rest := []) (ci := 0) X hH rfl hf (fun _ _ e_ => c_Jx4a65c_size_8abf5 l G v3 h _ _ e_) mv_Jx4a65c_size_8abf5 lk_RX6_60 (by decide) rfl hl.1 (Nat.le_of_ble_eq_true rfl) dX6_beginWind_31 (c2 := 0) (s2 := 0) (by decide) (fun v4 h H locs hH hf => ?_)
      refine lv_istore (lv' := [(4, .int v4), (0, .ref x0), (1, .int x1), (2, .int x2), (3, .int x3)]) hx hb dX6_beginWind_34 hl (by decide) rfl (fun ls hl => ?_)
      refine lv_aload_n hx hb dX6_beginWind_36 rfl (lv_at hl 1 rfl) ?_
      refine p_getR X hH fg_RX6_21 hf dX6_beginWind_37 (fun v5 _ hf => ?_)
      refine p_cVV (As := []) (b := v5) (rest := []) (ci := 0) X hH rfl hf (fun _ _ e_ => c_Jx4a65c_clear_da8c8 l G v5 h _ _ e_) mv_Jx4a65c_clear_da8c8 lk_RX6_64 (by decide) rfl hl.1 (Nat.le_of_ble_eq_true rfl) dX6_beginWind_40 (c2 := 0) (s2 := 0) (by decide) (fun _ h H locs hH hf => ?_)
      refine lv_aload_n hx hb dX6_beginWind_43 rfl (lv_at hl 1 rfl) ?_
      refine p_getR X hH fg_RX6_21 hf dX6_beginWind_44 (fun v6 _ hf => ?_)
      refine p_new X hH fn_RX6_7 (by decide) (by decide) hf dX6_beginWind_47 (fun q7 h H hH hf => ?_)
      refine W.widen (k := 1) (n := 4) (by decide) (by decide) ?_
      refine lv_dup hx hb dX6_beginWind_50 rfl ?_
      refine lv_iload_n hx hb dX6_beginWind_51 rfl (lv_at hl 2 rfl) ?_
      refine lv_iload_n hx hb dX6_beginWind_52 rfl (lv_at hl 3 rfl) ?_
      refine lv_iload_n hx hb dX6_beginWind_53 rfl (lv_at hl 4 rfl) ?_
      refine p_cIV (As := [.int x1, .int x2, .int x3]) (b := q7) (rest := [.ref q7, .ref v6]) X hH hf (fun _ _ e_ => c_X5_init l G q7 x1 x2 x3 h _ _ e_) mi_X5_init lk_RX6_9 (by decide) rfl hl.1 (Nat.le_of_ble_eq_true rfl) dX6_beginWind_54 (c2 := 1) (s2 := 4) (by decide) (fun _ h H locs hH hf => ?_)
      refine p_cVI (As := [.ref q7]) (b := v6) (rest := []) (ci := 0) X hH rfl hf (fun _ _ e_ => c_Jx4a65c_add_9ea2d l G v6 q7 h _ _ e_) mv_Jx4a65c_add_9ea2d lk_RX6_41 (by decide) rfl hl.1 (Nat.le_of_ble_eq_true rfl) dX6_beginWind_57 (c2 := 2) (s2 := 52) (by decide) (fun v8 h H locs hH hf => ?_)
      refine lv_pop hx hb dX6_beginWind_60 rfl ?_
      refine lv_iload hx hb dX6_beginWind_61 (lv_at hl 0 rfl) ?_
      exact p_xret X hH hf (by decide) (by decide) dX6_beginWind_63
    · exact w_X6_beginWind_b17 l X hfl hex  h H locs ls hH (lv_sub hl [] rfl) hf
set_option maxRecDepth 100000 in
set_option maxHeartbeats 4000000 in
theorem w_X6_addWind_b17 {G : GE} {p : Program} (l : Launch) {e : Env} {s : State} {m : MethodId} {args : Array Value} {below : List Frame} {meth : Method} {c : Code} {rr : (Sum Int32 String)} {hh : PH} (X : Cx G p s m args meth c cX6_addWind 4 RX6 "addWind" (some .int)) (hfl : l.stackTraces = false) (hex : ∀ x ∈ c.exceptionTable.toList, False)  (h : PH) (H : Heap) (locs : List Loc) (ls : Array Slot) (hH : Hx G s h H locs) (hl : lv_has ls 4 []) (hf : f_X6_addWind_b17 G  h = some (rr, hh)) : W p l e rm_X6_addWind s m args below meth c H locs 0 0 (Xq G rr hh below args s rm_X6_addWind.cells rm_X6_addWind.slots) (F0 m 17 ls []) := by
  have hx := X.1
  have hb := X.2.1
  unfold f_X6_addWind_b17 at hf
  exact p_thr_iae X hH (strs_55) hf hfl hex hl.1 (by decide) (by decide) (by decide) (by decide) (by decide) (by decide) dX6_addWind_17 dX6_addWind_20 dX6_addWind_21 dX6_addWind_23 dX6_addWind_26
set_option maxRecDepth 100000 in
set_option maxHeartbeats 4000000 in
theorem c_X6_addWind (l : Launch) (hfl : l.stackTraces = false) (G : GE) (x0 : Nat) (x1 : Int32) (x2 : Int32) (x3 : Int32) (h : PH) (rr : (Sum Int32 String)) (hh : PH) (hf : f_X6_addWind G x0 x1 x2 x3 h = some (rr, hh)) : Xt l yX6_addWind cX6_addWind 4 rm_X6_addWind G [.ref x0, .int x1, .int x2, .int x3] h rr hh := by
  refine Xt.of (by decide) (Nat.le_of_ble_eq_true rfl) ?_
  intro p e s m args below meth c ls X hex hH hl
  have hl : lv_has ls 4 [(0, .ref x0), (1, .int x1), (2, .int x2), (3, .int x3)] := hl
  have X : Cx G p s m args meth c cX6_addWind 4 RX6 "addWind" (some .int) := X
  have hx := X.1
  have hb := X.2.1
  unfold f_X6_addWind at hf
  obtain ⟨H, hHe⟩ : ∃ z, z = s.heap := ⟨_, rfl⟩
  obtain ⟨locs, hLe⟩ : ∃ z, z = ([] : List Loc) := ⟨_, rfl⟩
  rw [← hHe, ← hLe] at hH
  rw [← hHe, ← hLe]
  refine lv_iload_n hx hb dX6_addWind_0 rfl (lv_at hl 1 rfl) ?_
  refine p_cSI (As := [.int x1]) (rest := []) X hH hf (fun _ _ e_ => c_X6_isDirection l G x1 h _ _ e_) ms_X6_isDirection lk_RX6_45 (by decide) rfl hl.1 (Nat.le_of_ble_eq_true rfl) dX6_addWind_1 (c2 := 0) (s2 := 0) (by decide) (fun v1 h H locs hH hf => ?_)
  refine p_if_eq X hf dX6_addWind_4 (tgt := 17) (by decide) (fun _ hf => ?_) (fun _ hf => ?_)
  · exact w_X6_addWind_b17 l X hfl hex  h H locs ls hH (lv_sub hl [] rfl) hf
  · refine lv_iload_n hx hb dX6_addWind_7 rfl (lv_at hl 2 rfl) ?_
    refine lv_iconst (v := 0) hx hb dX6_addWind_8 (by decide) ?_
    refine lv_bipush (v := 9) hx hb dX6_addWind_9 (by decide) ?_
    refine p_cSI (As := [.int x2, .int (0 : Int32), .int (9 : Int32)]) (rest := []) X hH hf (fun _ _ e_ => c_X6_isWithin l G x2 (0 : Int32) (9 : Int32) h _ _ e_) ms_X6_isWithin lk_RX6_49 (by decide) rfl hl.1 (Nat.le_of_ble_eq_true rfl) dX6_addWind_11 (c2 := 0) (s2 := 0) (by decide) (fun v2 h H locs hH hf => ?_)
    refine p_if_ne X hf dX6_addWind_14 (tgt := 27) (by decide) (fun _ hf => ?_) (fun _ hf => ?_)
    · refine lv_aload_n hx hb dX6_addWind_27 rfl (lv_at hl 0 rfl) ?_
      refine p_getR X hH fg_RX6_21 hf dX6_addWind_28 (fun v3 _ hf => ?_)
      refine p_cVI (As := []) (b := v3) (rest := []) (ci := 0) X hH rfl hf (fun _ _ e_ => c_Jx4a65c_size_8abf5 l G v3 h _ _ e_) mv_Jx4a65c_size_8abf5 lk_RX6_60 (by decide) rfl hl.1 (Nat.le_of_ble_eq_true rfl) dX6_addWind_31 (c2 := 0) (s2 := 0) (by decide) (fun v4 h H locs hH hf => ?_)
      refine lv_bipush (v := 24) hx hb dX6_addWind_34 (by decide) ?_
      refine p_icmp_lt X hf dX6_addWind_36 (tgt := 49) (by decide) (fun _ hf => ?_) (fun _ hf => ?_)
      · refine lv_aload_n hx hb dX6_addWind_49 rfl (lv_at hl 0 rfl) ?_
        refine p_getR X hH fg_RX6_21 hf dX6_addWind_50 (fun v5 _ hf => ?_)
        refine p_new X hH fn_RX6_7 (by decide) (by decide) hf dX6_addWind_53 (fun q6 h H hH hf => ?_)
        refine W.widen (k := 1) (n := 4) (by decide) (by decide) ?_
        refine lv_dup hx hb dX6_addWind_56 rfl ?_
        refine lv_iload_n hx hb dX6_addWind_57 rfl (lv_at hl 1 rfl) ?_
        refine lv_iload_n hx hb dX6_addWind_58 rfl (lv_at hl 2 rfl) ?_
        refine lv_iload_n hx hb dX6_addWind_59 rfl (lv_at hl 3 rfl) ?_
        refine p_cIV (As := [.int x1, .int x2, .int x3]) (b := q6) (rest := [.ref q6, .ref v5]) X hH hf (fun _ _ e_ => c_X5_init l G q6 x1 x2 x3 h _ _ e_) mi_X5_init lk_RX6_9 (by decide) rfl hl.1 (Nat.le_of_ble_eq_true rfl) dX6_addWind_60 (c2 := 1) (s2 := 4) (by decide) (fun _ h H locs hH hf => ?_)
        refine p_cVI (As := [.ref q6]) (b := v5) (rest := []) (ci := 0) X hH rfl hf (fun _ _ e_ => c_Jx4a65c_add_9ea2d l G v5 q6 h _ _ e_) mv_Jx4a65c_add_9ea2d lk_RX6_41 (by decide) rfl hl.1 (Nat.le_of_ble_eq_true rfl) dX6_addWind_63 (c2 := 2) (s2 := 52) (by decide) (fun v7 h H locs hH hf => ?_)
        refine lv_pop hx hb dX6_addWind_66 rfl ?_
        refine lv_aload_n hx hb dX6_addWind_67 rfl (lv_at hl 0 rfl) ?_
        refine p_getR X hH fg_RX6_21 hf dX6_addWind_68 (fun v8 _ hf => ?_)
        refine p_cVI (As := []) (b := v8) (rest := []) (ci := 0) X hH rfl hf (fun _ _ e_ => c_Jx4a65c_size_8abf5 l G v8 h _ _ e_) mv_Jx4a65c_size_8abf5 lk_RX6_60 (by decide) rfl hl.1 (Nat.le_of_ble_eq_true rfl) dX6_addWind_71 (c2 := 2) (s2 := 52) (by decide) (fun v9 h H locs hH hf => ?_)
        exact p_xret X hH hf (by decide) (by decide) dX6_addWind_74
      · exact p_thr_ise X hH (strs_69) hf hfl hex hl.1 (by decide) (by decide) (by decide) (by decide) (by decide) (by decide) dX6_addWind_39 dX6_addWind_42 dX6_addWind_43 dX6_addWind_45 dX6_addWind_48
    · exact w_X6_addWind_b17 l X hfl hex  h H locs ls hH (lv_sub hl [] rfl) hf
set_option maxRecDepth 100000 in
set_option maxHeartbeats 4000000 in
theorem w_X6_windAt_b17 {G : GE} {p : Program} (l : Launch) {e : Env} {s : State} {m : MethodId} {args : Array Value} {below : List Frame} {meth : Method} {c : Code} {rr : Nat} {hh : PH} (X : Cx G p s m args meth c cX6_windAt 3 RX6 "windAt" (some (.object "VaneHouse$Wind"))) (x0 : Nat) (h : PH) (H : Heap) (locs : List Loc) (ls : Array Slot) (hH : Hx G s h H locs) (hl : lv_has ls 3 [(0, .ref x0)]) (hf : f_X6_windAt_b17 G x0 h = some (rr, hh)) : W p l e rm_X6_windAt s m args below meth c H locs 0 0 (Fq G (some (.ref rr)) hh below args s rm_X6_windAt.cells rm_X6_windAt.slots) (F0 m 17 ls []) := by
  have hx := X.1
  have hb := X.2.1
  unfold f_X6_windAt_b17 at hf
  refine lv_aload_n hx hb dX6_windAt_17 rfl (lv_at hl 0 rfl) ?_
  refine p_getR X hH fg_RX6_12 hf dX6_windAt_18 (fun v5 _ hf => ?_)
  exact p_aret X (by first | exact Or.inl ⟨_, rfl⟩ | exact Or.inr ⟨_, rfl⟩) hH hf (by decide) (by decide) dX6_windAt_21
set_option maxRecDepth 100000 in
set_option maxHeartbeats 4000000 in
theorem c_X6_windAt (l : Launch) (G : GE) (x0 : Nat) (x1 : Int32) (h : PH) (rr : Nat) (hh : PH) (hf : f_X6_windAt G x0 x1 h = some (rr, hh)) : Ct l yX6_windAt cX6_windAt 3 (some (.object "VaneHouse$Wind")) rm_X6_windAt G [.ref x0, .int x1] h (some (.ref rr)) hh := by
  refine Ct.of (plainFor_of_name (by decide)) (Nat.le_of_ble_eq_true rfl) ?_
  intro p e s m args below meth c ls X hH hl
  have hl : lv_has ls 3 [(0, .ref x0), (1, .int x1)] := hl
  have X : Cx G p s m args meth c cX6_windAt 3 RX6 "windAt" (some (.object "VaneHouse$Wind")) := X
  have hx := X.1
  have hb := X.2.1
  unfold f_X6_windAt at hf
  obtain ⟨H, hHe⟩ : ∃ z, z = s.heap := ⟨_, rfl⟩
  obtain ⟨locs, hLe⟩ : ∃ z, z = ([] : List Loc) := ⟨_, rfl⟩
  rw [← hHe, ← hLe] at hH
  rw [← hHe, ← hLe]
  refine lv_aload_n hx hb dX6_windAt_0 rfl (lv_at hl 0 rfl) ?_
  refine p_getR X hH fg_RX6_21 hf dX6_windAt_1 (fun v1 _ hf => ?_)
  refine p_cVI (As := []) (b := v1) (rest := []) (ci := 0) X hH rfl hf (fun _ _ e_ => c_Jx4a65c_size_8abf5 l G v1 h _ _ e_) mv_Jx4a65c_size_8abf5 lk_RX6_60 (by decide) rfl hl.1 (Nat.le_of_ble_eq_true rfl) dX6_windAt_4 (c2 := 0) (s2 := 0) (by decide) (fun v2 h H locs hH hf => ?_)
  refine lv_istore_n (lv' := [(2, .int v2), (0, .ref x0), (1, .int x1)]) hx hb dX6_windAt_7 rfl hl (by decide) rfl (fun ls hl => ?_)
  refine lv_iload_n hx hb dX6_windAt_8 rfl (lv_at hl 0 rfl) ?_
  refine lv_iconst (v := 1) hx hb dX6_windAt_9 (by decide) ?_
  refine p_icmp_lt X hf dX6_windAt_10 (tgt := 17) (by decide) (fun _ hf => ?_) (fun _ hf => ?_)
  · exact w_X6_windAt_b17 l X x0 h H locs ls hH (lv_sub hl [1] rfl) hf
  · refine lv_iload_n hx hb dX6_windAt_13 rfl (lv_at hl 2 rfl) ?_
    refine p_if_ge X hf dX6_windAt_14 (tgt := 22) (by decide) (fun _ hf => ?_) (fun _ hf => ?_)
    · refine lv_aload_n hx hb dX6_windAt_22 rfl (lv_at hl 1 rfl) ?_
      refine p_getR X hH fg_RX6_21 hf dX6_windAt_23 (fun v3 _ hf => ?_)
      refine lv_iload_n hx hb dX6_windAt_26 rfl (lv_at hl 2 rfl) ?_
      refine lv_iload_n hx hb dX6_windAt_27 rfl (lv_at hl 0 rfl) ?_
      refine p_irem X hf dX6_windAt_28 (fun hf => ?_)
      refine p_cVR (As := [.int (x1 - x1 / v2 * v2)]) (b := v3) (rest := []) (ci := 0) X hH rfl hf (fun _ _ e_ => c_Jx4a65c_get_915e3 l G v3 (x1 - x1 / v2 * v2) h _ _ e_) mv_Jx4a65c_get_915e3 lk_RX6_119 (by decide) rfl hl.1 (Nat.le_of_ble_eq_true rfl) dX6_windAt_29 (c2 := 0) (s2 := 0) (by decide) (fun v4 h H locs hH hf => ?_)
      refine p_cast X hH (ci := 6) rfl m_65 hf dX6_windAt_32 (fun _ hf => ?_)
      exact p_aret X (by first | exact Or.inl ⟨_, rfl⟩ | exact Or.inr ⟨_, rfl⟩) hH hf (by decide) (by decide) dX6_windAt_35
    · exact w_X6_windAt_b17 l X x0 h H locs ls hH (lv_sub hl [1] rfl) hf
set_option maxRecDepth 100000 in
set_option maxHeartbeats 4000000 in
theorem c_X6_wind (l : Launch) (hfl : l.stackTraces = false) (G : GE) (x0 : Nat) (x1 : Int32) (x2 : Int32) (h : PH) (rr : (Sum Int32 String)) (hh : PH) (hf : f_X6_wind G x0 x1 x2 h = some (rr, hh)) : Xt l yX6_wind cX6_wind 3 rm_X6_wind G [.ref x0, .int x1, .int x2] h rr hh := by
  refine Xt.of (by decide) (Nat.le_of_ble_eq_true rfl) ?_
  intro p e s m args below meth c ls X hex hH hl
  have hl : lv_has ls 3 [(0, .ref x0), (1, .int x1), (2, .int x2)] := hl
  have X : Cx G p s m args meth c cX6_wind 3 RX6 "wind" (some .int) := X
  have hx := X.1
  have hb := X.2.1
  unfold f_X6_wind at hf
  obtain ⟨H, hHe⟩ : ∃ z, z = s.heap := ⟨_, rfl⟩
  obtain ⟨locs, hLe⟩ : ∃ z, z = ([] : List Loc) := ⟨_, rfl⟩
  rw [← hHe, ← hLe] at hH
  rw [← hHe, ← hLe]
  refine lv_iload_n hx hb dX6_wind_0 rfl (lv_at hl 1 rfl) ?_
  refine p_if_ge X hf dX6_wind_1 (tgt := 14) (by decide) (fun _ hf => ?_) (fun _ hf => ?_)
  · refine lv_iload_n hx hb dX6_wind_14 rfl (lv_at hl 2 rfl) ?_
    refine lv_iconst (v := 0) hx hb dX6_wind_15 (by decide) ?_
    refine lv_iconst (v := 2) hx hb dX6_wind_16 (by decide) ?_
    refine p_cSI (As := [.int x2, .int (0 : Int32), .int (2 : Int32)]) (rest := []) X hH hf (fun _ _ e_ => c_X6_isWithin l G x2 (0 : Int32) (2 : Int32) h _ _ e_) ms_X6_isWithin lk_RX6_49 (by decide) rfl hl.1 (Nat.le_of_ble_eq_true rfl) dX6_wind_17 (c2 := 0) (s2 := 0) (by decide) (fun v1 h H locs hH hf => ?_)
    refine p_if_ne X hf dX6_wind_20 (tgt := 33) (by decide) (fun _ hf => ?_) (fun _ hf => ?_)
    · refine lv_aload_n hx hb dX6_wind_33 rfl (lv_at hl 0 rfl) ?_
      refine lv_iload_n hx hb dX6_wind_34 rfl (lv_at hl 1 rfl) ?_
      refine p_cVR (As := [.int x1]) (b := x0) (rest := []) (ci := 7) X hH rfl hf (fun _ _ e_ => c_X6_windAt l G x0 x1 h _ _ e_) mv_X6_windAt lk_RX6_79 (by decide) rfl hl.1 (Nat.le_of_ble_eq_true rfl) dX6_wind_35 (c2 := 0) (s2 := 0) (by decide) (fun v2 h H locs hH hf => ?_)
      refine lv_iload_n hx hb dX6_wind_38 rfl (lv_at hl 2 rfl) ?_
      refine p_cVI (As := [.int x2]) (b := v2) (rest := []) (ci := 6) X hH rfl hf (fun _ _ e_ => c_X5_tell l G v2 x2 h _ _ e_) mv_X5_tell lk_RX6_83 (by decide) rfl hl.1 (Nat.le_of_ble_eq_true rfl) dX6_wind_39 (c2 := 0) (s2 := 0) (by decide) (fun v3 h H locs hH hf => ?_)
      exact p_xret X hH hf (by decide) (by decide) dX6_wind_42
    · exact p_thr_ioo X hH (strs_76) hf hfl hex hl.1 (by decide) (by decide) (by decide) (by decide) (by decide) (by decide) dX6_wind_23 dX6_wind_26 dX6_wind_27 dX6_wind_29 dX6_wind_32
  · exact p_thr_iae X hH (strs_72) hf hfl hex hl.1 (by decide) (by decide) (by decide) (by decide) (by decide) (by decide) dX6_wind_4 dX6_wind_7 dX6_wind_8 dX6_wind_10 dX6_wind_13
set_option maxRecDepth 100000 in
set_option maxHeartbeats 4000000 in
theorem w_X6_setUp_b20 {G : GE} {p : Program} (l : Launch) {e : Env} {s : State} {m : MethodId} {args : Array Value} {below : List Frame} {meth : Method} {c : Code} {rr : (Sum Int32 String)} {hh : PH} (X : Cx G p s m args meth c cX6_setUp 8 RX6 "setUp" (some .int)) (hfl : l.stackTraces = false) (hex : ∀ x ∈ c.exceptionTable.toList, False)  (h : PH) (H : Heap) (locs : List Loc) (ls : Array Slot) (hH : Hx G s h H locs) (hl : lv_has ls 8 []) (hf : f_X6_setUp_b20 G  h = some (rr, hh)) : W p l e rm_X6_setUp s m args below meth c H locs 0 0 (Xq G rr hh below args s rm_X6_setUp.cells rm_X6_setUp.slots) (F0 m 20 ls []) := by
  have hx := X.1
  have hb := X.2.1
  unfold f_X6_setUp_b20 at hf
  exact p_thr_iae X hH (strs_87) hf hfl hex hl.1 (by decide) (by decide) (by decide) (by decide) (by decide) (by decide) dX6_setUp_20 dX6_setUp_23 dX6_setUp_24 dX6_setUp_26 dX6_setUp_29
set_option maxRecDepth 100000 in
set_option maxHeartbeats 4000000 in
theorem w_X6_setUp_b70 {G : GE} {p : Program} (l : Launch) {e : Env} {s : State} {m : MethodId} {args : Array Value} {below : List Frame} {meth : Method} {c : Code} {rr : (Sum Int32 String)} {hh : PH} (X : Cx G p s m args meth c cX6_setUp 8 RX6 "setUp" (some .int)) (hfl : l.stackTraces = false) (hex : ∀ x ∈ c.exceptionTable.toList, False)  (h : PH) (H : Heap) (locs : List Loc) (ls : Array Slot) (hH : Hx G s h H locs) (hl : lv_has ls 8 []) (hf : f_X6_setUp_b70 G  h = some (rr, hh)) : W p l e rm_X6_setUp s m args below meth c H locs 0 0 (Xq G rr hh below args s rm_X6_setUp.cells rm_X6_setUp.slots) (F0 m 70 ls []) := by
  have hx := X.1
  have hb := X.2.1
  unfold f_X6_setUp_b70 at hf
  exact p_thr_iae X hH (strs_89) hf hfl hex hl.1 (by decide) (by decide) (by decide) (by decide) (by decide) (by decide) dX6_setUp_70 dX6_setUp_73 dX6_setUp_74 dX6_setUp_76 dX6_setUp_79
set_option maxRecDepth 100000 in
set_option maxHeartbeats 4000000 in
theorem w_X6_setUp_b107 {G : GE} {p : Program} (l : Launch) {e : Env} {s : State} {m : MethodId} {args : Array Value} {below : List Frame} {meth : Method} {c : Code} {rr : (Sum Int32 String)} {hh : PH} (X : Cx G p s m args meth c cX6_setUp 8 RX6 "setUp" (some .int)) (hfl : l.stackTraces = false) (hex : ∀ x ∈ c.exceptionTable.toList, False)  (h : PH) (H : Heap) (locs : List Loc) (ls : Array Slot) (hH : Hx G s h H locs) (hl : lv_has ls 8 []) (hf : f_X6_setUp_b107 G  h = some (rr, hh)) : W p l e rm_X6_setUp s m args below meth c H locs 0 0 (Xq G rr hh below args s rm_X6_setUp.cells rm_X6_setUp.slots) (F0 m 107 ls []) := by
  have hx := X.1
  have hb := X.2.1
  unfold f_X6_setUp_b107 at hf
  exact p_thr_ise X hH (strs_98) hf hfl hex hl.1 (by decide) (by decide) (by decide) (by decide) (by decide) (by decide) dX6_setUp_107 dX6_setUp_110 dX6_setUp_111 dX6_setUp_113 dX6_setUp_116
set_option maxRecDepth 100000 in
set_option maxHeartbeats 4000000 in
theorem c_X6_setUp (l : Launch) (hfl : l.stackTraces = false) (G : GE) (x0 : Nat) (x1 : Int32) (x2 : Int32) (x3 : Int32) (x4 : Int32) (x5 : Int32) (x6 : Int32) (h : PH) (rr : (Sum Int32 String)) (hh : PH) (hf : f_X6_setUp G x0 x1 x2 x3 x4 x5 x6 h = some (rr, hh)) : Xt l yX6_setUp cX6_setUp 8 rm_X6_setUp G [.ref x0, .int x1, .int x2, .int x3, .int x4, .int x5, .int x6] h rr hh := by
  refine Xt.of (by decide) (Nat.le_of_ble_eq_true rfl) ?_
  intro p e s m args below meth c ls X hex hH hl
  have hl : lv_has ls 8 [(0, .ref x0), (1, .int x1), (2, .int x2), (3, .int x3), (4, .int x4), (5, .int x5), (6, .int x6)] := hl
  have X : Cx G p s m args meth c cX6_setUp 8 RX6 "setUp" (some .int) := X
  have hx := X.1
  have hb := X.2.1
  unfold f_X6_setUp at hf
  obtain ⟨H, hHe⟩ : ∃ z, z = s.heap := ⟨_, rfl⟩
  obtain ⟨locs, hLe⟩ : ∃ z, z = ([] : List Loc) := ⟨_, rfl⟩
  rw [← hHe, ← hLe] at hH
  rw [← hHe, ← hLe]
  refine lv_iload_n hx hb dX6_setUp_0 rfl (lv_at hl 1 rfl) ?_
  refine lv_iconst (v := 0) hx hb dX6_setUp_1 (by decide) ?_
  refine lv_bipush (v := 11) hx hb dX6_setUp_2 (by decide) ?_
  refine p_cSI (As := [.int x1, .int (0 : Int32), .int (11 : Int32)]) (rest := []) X hH hf (fun _ _ e_ => c_X6_isWithin l G x1 (0 : Int32) (11 : Int32) h _ _ e_) ms_X6_isWithin lk_RX6_49 (by decide) rfl hl.1 (Nat.le_of_ble_eq_true rfl) dX6_setUp_4 (c2 := 0) (s2 := 0) (by decide) (fun v1 h H locs hH hf => ?_)
  refine p_if_eq X hf dX6_setUp_7 (tgt := 20) (by decide) (fun _ hf => ?_) (fun _ hf => ?_)
  · exact w_X6_setUp_b20 l X hfl hex  h H locs ls hH (lv_sub hl [] rfl) hf
  · refine lv_iload_n hx hb dX6_setUp_10 rfl (lv_at hl 2 rfl) ?_
    refine lv_iconst (v := 0) hx hb dX6_setUp_11 (by decide) ?_
    refine lv_bipush (v := 11) hx hb dX6_setUp_12 (by decide) ?_
    refine p_cSI (As := [.int x2, .int (0 : Int32), .int (11 : Int32)]) (rest := []) X hH hf (fun _ _ e_ => c_X6_isWithin l G x2 (0 : Int32) (11 : Int32) h _ _ e_) ms_X6_isWithin lk_RX6_49 (by decide) rfl hl.1 (Nat.le_of_ble_eq_true rfl) dX6_setUp_14 (c2 := 0) (s2 := 0) (by decide) (fun v2 h H locs hH hf => ?_)
    refine p_if_ne X hf dX6_setUp_17 (tgt := 30) (by decide) (fun _ hf => ?_) (fun _ hf => ?_)
    · refine lv_iload_n hx hb dX6_setUp_30 rfl (lv_at hl 3 rfl) ?_
      refine lv_iconst (v := 1) hx hb dX6_setUp_31 (by decide) ?_
      refine lv_bipush (v := 9) hx hb dX6_setUp_32 (by decide) ?_
      refine p_cSI (As := [.int x3, .int (1 : Int32), .int (9 : Int32)]) (rest := []) X hH hf (fun _ _ e_ => c_X6_isWithin l G x3 (1 : Int32) (9 : Int32) h _ _ e_) ms_X6_isWithin lk_RX6_49 (by decide) rfl hl.1 (Nat.le_of_ble_eq_true rfl) dX6_setUp_34 (c2 := 0) (s2 := 0) (by decide) (fun v3 h H locs hH hf => ?_)
      refine p_if_eq X hf dX6_setUp_37 (tgt := 70) (by decide) (fun _ hf => ?_) (fun _ hf => ?_)
      · exact w_X6_setUp_b70 l X hfl hex  h H locs ls hH (lv_sub hl [] rfl) hf
      · refine lv_iload hx hb dX6_setUp_40 (lv_at hl 4 rfl) ?_
        refine lv_iconst (v := 1) hx hb dX6_setUp_42 (by decide) ?_
        refine lv_bipush (v := 9) hx hb dX6_setUp_43 (by decide) ?_
        refine p_cSI (As := [.int x4, .int (1 : Int32), .int (9 : Int32)]) (rest := []) X hH hf (fun _ _ e_ => c_X6_isWithin l G x4 (1 : Int32) (9 : Int32) h _ _ e_) ms_X6_isWithin lk_RX6_49 (by decide) rfl hl.1 (Nat.le_of_ble_eq_true rfl) dX6_setUp_45 (c2 := 0) (s2 := 0) (by decide) (fun v4 h H locs hH hf => ?_)
        refine p_if_eq X hf dX6_setUp_48 (tgt := 70) (by decide) (fun _ hf => ?_) (fun _ hf => ?_)
        · exact w_X6_setUp_b70 l X hfl hex  h H locs ls hH (lv_sub hl [] rfl) hf
        · refine lv_iload hx hb dX6_setUp_51 (lv_at hl 5 rfl) ?_
          refine lv_iconst (v := 0) hx hb dX6_setUp_53 (by decide) ?_
          refine lv_bipush (v := 9) hx hb dX6_setUp_54 (by decide) ?_
          refine p_cSI (As := [.int x5, .int (0 : Int32), .int (9 : Int32)]) (rest := []) X hH hf (fun _ _ e_ => c_X6_isWithin l G x5 (0 : Int32) (9 : Int32) h _ _ e_) ms_X6_isWithin lk_RX6_49 (by decide) rfl hl.1 (Nat.le_of_ble_eq_true rfl) dX6_setUp_56 (c2 := 0) (s2 := 0) (by decide) (fun v5 h H locs hH hf => ?_)
          refine p_if_eq X hf dX6_setUp_59 (tgt := 70) (by decide) (fun _ hf => ?_) (fun _ hf => ?_)
          · exact w_X6_setUp_b70 l X hfl hex  h H locs ls hH (lv_sub hl [] rfl) hf
          · refine lv_iload hx hb dX6_setUp_62 (lv_at hl 6 rfl) ?_
            refine p_cSI (As := [.int x6]) (rest := []) X hH hf (fun _ _ e_ => c_X6_isDirection l G x6 h _ _ e_) ms_X6_isDirection lk_RX6_45 (by decide) rfl hl.1 (Nat.le_of_ble_eq_true rfl) dX6_setUp_64 (c2 := 0) (s2 := 0) (by decide) (fun v6 h H locs hH hf => ?_)
            refine p_if_ne X hf dX6_setUp_67 (tgt := 80) (by decide) (fun _ hf => ?_) (fun _ hf => ?_)
            · refine lv_aload_n hx hb dX6_setUp_80 rfl (lv_at hl 0 rfl) ?_
              refine p_getR X hH fg_RX6_34 hf dX6_setUp_81 (fun v7 _ hf => ?_)
              refine lv_iload_n hx hb dX6_setUp_84 rfl (lv_at hl 1 rfl) ?_
              refine lv_iload_n hx hb dX6_setUp_85 rfl (lv_at hl 2 rfl) ?_
              refine p_cVI (As := [.int x1, .int x2]) (b := v7) (rest := []) (ci := 4) X hH rfl hf (fun _ _ e_ => c_X3_hasOneAt l G v7 x1 x2 h _ _ e_) mv_X3_hasOneAt lk_RX6_91 (by decide) rfl hl.1 (Nat.le_of_ble_eq_true rfl) dX6_setUp_86 (c2 := 0) (s2 := 0) (by decide) (fun v8 h H locs hH hf => ?_)
              refine p_if_ne X hf dX6_setUp_89 (tgt := 107) (by decide) (fun _ hf => ?_) (fun _ hf => ?_)
              · exact w_X6_setUp_b107 l X hfl hex  h H locs ls hH (lv_sub hl [] rfl) hf
              · refine lv_aload_n hx hb dX6_setUp_92 rfl (lv_at hl 0 rfl) ?_
                refine p_getR X hH fg_RX6_34 hf dX6_setUp_93 (fun v9 _ hf => ?_)
                refine p_getR X hH fg_RX6_95 hf dX6_setUp_96 (fun v10 _ hf => ?_)
                refine p_cVI (As := []) (b := v10) (rest := []) (ci := 0) X hH rfl hf (fun _ _ e_ => c_Jx4a65c_size_8abf5 l G v10 h _ _ e_) mv_Jx4a65c_size_8abf5 lk_RX6_60 (by decide) rfl hl.1 (Nat.le_of_ble_eq_true rfl) dX6_setUp_99 (c2 := 0) (s2 := 0) (by decide) (fun v11 h H locs hH hf => ?_)
                refine lv_bipush (v := 16) hx hb dX6_setUp_102 (by decide) ?_
                refine p_icmp_lt X hf dX6_setUp_104 (tgt := 117) (by decide) (fun _ hf => ?_) (fun _ hf => ?_)
                · refine p_new X hH fn_RX6_100 (by decide) (by decide) hf dX6_setUp_117 (fun q12 h H hH hf => ?_)
                  refine W.widen (k := 1) (n := 5) (by decide) (by decide) ?_
                  refine lv_dup hx hb dX6_setUp_120 rfl ?_
                  refine lv_iload_n hx hb dX6_setUp_121 rfl (lv_at hl 1 rfl) ?_
                  refine lv_iload_n hx hb dX6_setUp_122 rfl (lv_at hl 2 rfl) ?_
                  refine lv_iload_n hx hb dX6_setUp_123 rfl (lv_at hl 3 rfl) ?_
                  refine lv_iload hx hb dX6_setUp_124 (lv_at hl 4 rfl) ?_
                  refine p_cIV (As := [.int x1, .int x2, .int x3, .int x4]) (b := q12) (rest := [.ref q12]) X hH hf (fun _ _ e_ => c_X1_init l G q12 x1 x2 x3 x4 h _ _ e_) mi_X1_init lk_RX6_102 (by decide) rfl hl.1 (Nat.le_of_ble_eq_true rfl) dX6_setUp_126 (c2 := 2) (s2 := 13) (by decide) (fun _ h H locs hH hf => ?_)
                  refine lv_astore (lv' := [(7, .ref q12), (0, .ref x0), (1, .int x1), (2, .int x2), (3, .int x3), (4, .int x4), (5, .int x5), (6, .int x6)]) hx hb dX6_setUp_129 hl (by decide) rfl (fun ls hl => ?_)
                  refine lv_aload_n hx hb dX6_setUp_131 rfl (lv_at hl 1 rfl) ?_
                  refine p_getR X hH fg_RX6_34 hf dX6_setUp_132 (fun v13 _ hf => ?_)
                  refine lv_aload hx hb dX6_setUp_135 (lv_at hl 0 rfl) ?_
                  refine p_cVV (As := [.ref q12]) (b := v13) (rest := []) (ci := 4) X hH rfl hf (fun _ _ e_ => c_X3_shelter l G v13 q12 h _ _ e_) mv_X3_shelter lk_RX6_105 (by decide) rfl hl.1 (Nat.le_of_ble_eq_true rfl) dX6_setUp_137 (c2 := 2) (s2 := 13) (by decide) (fun _ h H locs hH hf => ?_)
                  refine lv_aload_n hx hb dX6_setUp_140 rfl (lv_at hl 1 rfl) ?_
                  refine p_getR X hH fg_RX6_34 hf dX6_setUp_141 (fun v14 _ hf => ?_)
                  refine p_getR X hH fg_RX6_95 hf dX6_setUp_144 (fun v15 _ hf => ?_)
                  refine p_new X hH fn_RX6_109 (by decide) (by decide) hf dX6_setUp_147 (fun q16 h H hH hf => ?_)
                  refine W.widen (k := 3) (n := 20) (by decide) (by decide) ?_
                  refine lv_dup hx hb dX6_setUp_150 rfl ?_
                  refine lv_aload hx hb dX6_setUp_151 (lv_at hl 0 rfl) ?_
                  refine lv_iload hx hb dX6_setUp_153 (lv_at hl 6 rfl) ?_
                  refine lv_iload hx hb dX6_setUp_155 (lv_at hl 7 rfl) ?_
                  refine p_cIV (As := [.ref q12, .int x5, .int x6]) (b := q16) (rest := [.ref q16, .ref v15]) X hH hf (fun _ _ e_ => c_X4_init l G q16 q12 x5 x6 h _ _ e_) mi_X4_init lk_RX6_111 (by decide) rfl hl.1 (Nat.le_of_ble_eq_true rfl) dX6_setUp_157 (c2 := 3) (s2 := 20) (by decide) (fun _ h H locs hH hf => ?_)
                  refine p_cVI (As := [.ref q16]) (b := v15) (rest := []) (ci := 0) X hH rfl hf (fun _ _ e_ => c_Jx4a65c_add_9ea2d l G v15 q16 h _ _ e_) mv_Jx4a65c_add_9ea2d lk_RX6_41 (by decide) rfl hl.1 (Nat.le_of_ble_eq_true rfl) dX6_setUp_160 (c2 := 4) (s2 := 68) (by decide) (fun v17 h H locs hH hf => ?_)
                  refine lv_pop hx hb dX6_setUp_163 rfl ?_
                  refine lv_aload_n hx hb dX6_setUp_164 rfl (lv_at hl 1 rfl) ?_
                  refine p_getR X hH fg_RX6_38 hf dX6_setUp_165 (fun v18 _ hf => ?_)
                  refine p_getR X hH fg_RX6_95 hf dX6_setUp_168 (fun v19 _ hf => ?_)
                  refine p_new X hH fn_RX6_109 (by decide) (by decide) hf dX6_setUp_171 (fun q20 h H hH hf => ?_)
                  refine W.widen (k := 5) (n := 75) (by decide) (by decide) ?_
                  refine lv_dup hx hb dX6_setUp_174 rfl ?_
                  refine lv_aload hx hb dX6_setUp_175 (lv_at hl 0 rfl) ?_
                  refine lv_iload hx hb dX6_setUp_177 (lv_at hl 6 rfl) ?_
                  refine lv_iload hx hb dX6_setUp_179 (lv_at hl 7 rfl) ?_
                  refine p_cIV (As := [.ref q12, .int x5, .int x6]) (b := q20) (rest := [.ref q20, .ref v19]) X hH hf (fun _ _ e_ => c_X4_init l G q20 q12 x5 x6 h _ _ e_) mi_X4_init lk_RX6_111 (by decide) rfl hl.1 (Nat.le_of_ble_eq_true rfl) dX6_setUp_181 (c2 := 5) (s2 := 75) (by decide) (fun _ h H locs hH hf => ?_)
                  refine p_cVI (As := [.ref q20]) (b := v19) (rest := []) (ci := 0) X hH rfl hf (fun _ _ e_ => c_Jx4a65c_add_9ea2d l G v19 q20 h _ _ e_) mv_Jx4a65c_add_9ea2d lk_RX6_41 (by decide) rfl hl.1 (Nat.le_of_ble_eq_true rfl) dX6_setUp_184 (c2 := 6) (s2 := 123) (by decide) (fun v21 h H locs hH hf => ?_)
                  refine lv_pop hx hb dX6_setUp_187 rfl ?_
                  refine lv_aload_n hx hb dX6_setUp_188 rfl (lv_at hl 1 rfl) ?_
                  refine p_getR X hH fg_RX6_34 hf dX6_setUp_189 (fun v22 _ hf => ?_)
                  refine p_getR X hH fg_RX6_95 hf dX6_setUp_192 (fun v23 _ hf => ?_)
                  refine p_cVI (As := []) (b := v23) (rest := []) (ci := 0) X hH rfl hf (fun _ _ e_ => c_Jx4a65c_size_8abf5 l G v23 h _ _ e_) mv_Jx4a65c_size_8abf5 lk_RX6_60 (by decide) rfl hl.1 (Nat.le_of_ble_eq_true rfl) dX6_setUp_195 (c2 := 6) (s2 := 123) (by decide) (fun v24 h H locs hH hf => ?_)
                  refine lv_iconst (v := 1) hx hb dX6_setUp_198 (by decide) ?_
                  refine lv_isub hx hb dX6_setUp_199 ?_
                  exact p_xret X hH hf (by decide) (by decide) dX6_setUp_200
                · exact w_X6_setUp_b107 l X hfl hex  h H locs ls hH (lv_sub hl [] rfl) hf
            · exact w_X6_setUp_b70 l X hfl hex  h H locs ls hH (lv_sub hl [] rfl) hf
    · exact w_X6_setUp_b20 l X hfl hex  h H locs ls hH (lv_sub hl [] rfl) hf
