/-! ===== calls that only ask: a motion's stand, a motion, a vane, counts, parties ===== -/
theorem pred_lt {x : Int32} {n : Nat} (hn : n < 2 ^ 30) : (nI n - 1 < x) ↔ nI n ≤ x := by
  rw [Int32.lt_iff_toInt_lt, Int32.le_iff_toInt_le, show nI n - 1 = nI n - nI 1 from rfl, pk_sub_toInt (by omega) (by omega), nI_toInt (by omega)]
  omega
/-- a number that names one of n -/
theorem N_in {x : Int32} {n : Nat} (hn : n < 2 ^ 30) (h : isB n x) : ¬ x < 0 ∧ ¬ nI n ≤ x ∧ ¬ nI n - 1 < x := by
  obtain ⟨j, hj, rfl⟩ := h
  exact ⟨nI_pos (by omega), nI_ge hj (by omega), fun q => nI_ge hj (by omega) ((pred_lt hn).mp q)⟩
theorem N_out {x : Int32} {n : Nat} (hn : n < 2 ^ 30) (h : ¬ isB n x) : x < 0 ∨ (¬ x < 0 ∧ nI n ≤ x ∧ nI n - 1 < x) := by
  by_cases c : x < 0
  · exact Or.inl c
  · by_cases c2 : nI n ≤ x
    · exact Or.inr ⟨c, c2, (pred_lt hn).mpr c2⟩
    · exact absurd (isB_of (by omega) c c2) h
theorem V_in {G : GE} {z z' : Zs} {h h' : PH} (R : Rp G z h) (R' : Rp G z' h') {n : Nat} (C : CN z n) (hn : z'.1 10 0 5 = nI n) {x : Int32} (hx : isB n x) : f_X6_isVane G (z.2.2.2 bV) x h = some (1, h) ∧ f_X8_isVane G (z'.2.2.2 bX) x h' = some (1, h') := by
  have h16 := (C.t false).2.2.2
  obtain ⟨a, b, c⟩ := N_in (by omega) hx
  rw [s_isVane R C, s_misVane R', hn, if_neg a, if_neg b, if_neg a, if_neg c]
  exact ⟨rfl, rfl⟩
theorem V_out {G : GE} {z z' : Zs} {h h' : PH} (R : Rp G z h) (R' : Rp G z' h') {n : Nat} (C : CN z n) (hn : z'.1 10 0 5 = nI n) {x : Int32} (hx : ¬ isB n x) : f_X6_isVane G (z.2.2.2 bV) x h = some (0, h) ∧ f_X8_isVane G (z'.2.2.2 bX) x h' = some (0, h') := by
  have h16 := (C.t false).2.2.2
  rw [s_isVane R C, s_misVane R', hn]
  rcases N_out (by omega) hx with a | ⟨a, b, c⟩
  · rw [if_pos a, if_pos a]
    exact ⟨rfl, rfl⟩
  · rw [if_neg a, if_pos b, if_neg a, if_pos c]
    exact ⟨rfl, rfl⟩
theorem M_in {G : GE} {z z' : Zs} {h h' : PH} (R : Rp G z h) (R' : Rp G z' h') {n : Nat} (C : CN z n) (hn : z'.1 10 0 7 = nI (z.2.1 1)) {x : Int32} (hx : isB (z.2.1 1) x) : f_X6_isMotion G (z.2.2.2 bV) x h = some (1, h) ∧ f_X8_isMotion G (z'.2.2.2 bX) x h' = some (1, h') := by
  have h12 := C.2.2.2.2.1
  obtain ⟨a, b, c⟩ := N_in (by omega) hx
  rw [s_isMotion R C, s_misMotion R', hn, if_neg a, if_neg b, if_neg a, if_neg c]
  exact ⟨rfl, rfl⟩
theorem M_out {G : GE} {z z' : Zs} {h h' : PH} (R : Rp G z h) (R' : Rp G z' h') {n : Nat} (C : CN z n) (hn : z'.1 10 0 7 = nI (z.2.1 1)) {x : Int32} (hx : ¬ isB (z.2.1 1) x) : f_X6_isMotion G (z.2.2.2 bV) x h = some (0, h) ∧ f_X8_isMotion G (z'.2.2.2 bX) x h' = some (0, h') := by
  have h12 := C.2.2.2.2.1
  rw [s_isMotion R C, s_misMotion R', hn]
  rcases N_out (by omega) hx with a | ⟨a, b, c⟩
  · rw [if_pos a, if_pos a]
    exact ⟨rfl, rfl⟩
  · rw [if_neg a, if_pos b, if_neg a, if_pos c]
    exact ⟨rfl, rfl⟩
theorem ne10 : ¬ (1 : Int32) = 0 := by decide
theorem ls_stand {G : GE} {x y o : Nat} : LS_stand G x y o (IV G x y o) := by
  rintro h ⟨z, R, P, Gd⟩ a0 a1
  have Gd' := Gd
  obtain ⟨n, W, H0, ne, S, g1, g2, g3, g4, g5, g6, g7, g8, g9⟩ := Gd
  have H := S.2.1
  have C := H.1
  have h16 := (C.t false).2.2.2
  have h12 := C.2.2.2.2.1
  have hn : z.1 10 0 5 = nI n := S.2.2.2.1.1
  have hEx : (¬ isB (z.2.1 1) a0 ∨ isB (z.2.1 1) a0 ∧ ¬ isB n a1) → stX G x y o (f_X6_stand G x a0 a1 h) okE_L_stand cd_L_stand (fun h => f_X8_stand G y a0 a1 h) h (IV G x y o) := by
    intro hc
    refine both_ex R P (E := "java/lang/IndexOutOfBoundsException") ?_ (by decide) (fun h2 R2 => ?_)
    · rw [← P.1]
      rcases hc with hc | ⟨hc, hc2⟩
      · simp only [f_X6_stand, c_oV R, rd_s, (M_out R R C g4 hc).1, bd_s, if_true]
      · simp only [f_X6_stand, c_oV R, rd_s, (M_in R R C g4 hc).1, (V_out R R C hn hc2).1, bd_s, if_true, if_neg ne10]
    · obtain ⟨h3, e3, R3⟩ := w_X_0 R2 0
      obtain ⟨h4, e4, R4⟩ := s_no2 R3 1
      have i9 : isC 9 h3 (z.2.2.2 bX) = some () := c_oX (z := uI z 0 1 0 0) R3
      refine ⟨0, h4, _, ?_, R4, P.thr 1, rfl, Gd'.thr 1⟩
      rw [← P.2.1]
      rcases hc with hc | ⟨hc, hc2⟩
      · have q : f_X8_isMotion G (z.2.2.2 bX) a0 h3 = some (0, h3) := (M_out (z := z) (z' := uI z 0 1 0 0) R R3 C g4 hc).2
        simp only [f_X8_stand, e3, rd_s, i9, q, bd_s, if_true, f_X8_stand_b33, e4, f_X8_stand_b38]
      · have q : f_X8_isMotion G (z.2.2.2 bX) a0 h3 = some (1, h3) := (M_in (z := z) (z' := uI z 0 1 0 0) R R3 C g4 hc).2
        have q2 : f_X8_isVane G (z.2.2.2 bX) a1 h3 = some (0, h3) := (V_out (z := z) (z' := uI z 0 1 0 0) R R3 C hn hc2).2
        simp only [f_X8_stand, e3, rd_s, i9, q, q2, bd_s, if_true, if_neg ne10, f_X8_stand_b33, e4, f_X8_stand_b38]
  by_cases c0 : isB (z.2.1 1) a0
  · by_cases c1 : isB n a1
    · have c0' := c0
      have c1' := c1
      obtain ⟨q, hq, rfl⟩ := c0
      obtain ⟨v, hv, rfl⟩ := c1
      refine both_ok R P (r := kSide (z.1 2 q 0) (z.1 2 q 1) (z.1 6 v 6)) ⟨h, z, ?_, R, P, fun h2 R2 => ?_⟩
      · rw [← P.1]
        simp only [f_X6_stand, c_oV R, rd_s, (M_in R R C g4 c0').1, (V_in R R C hn c1').1, bd_s, if_neg ne10, g_V_2 R, c_oL R (show 1 < 5 by decide), s_getm R C hq, c_omo R hq, g_V_4 R, g_tn_0 R, c_oL R (lb_lt _), s_getv R (C.t false) hv, c_ovn R ((C.t false).v hv), s_sideOf R hq ((C.t false).v hv)]
        rfl
      · obtain ⟨h3, e3, R3⟩ := w_X_0 R2 0
        refine ⟨h3, _, ?_, R3, P, rfl, rfl, (Gd'.o _).thr 0⟩
        have e3 : sF 9 h2 (z.2.2.2 bX) 0 (.int 0) = some h3 := e3
        have i9 : isC 9 h3 (z.2.2.2 bX) = some () := c_oX (z := uI (uO z 0 _) 0 1 0 0) R3
        have q1 : f_X8_isMotion G (z.2.2.2 bX) (nI q) h3 = some (1, h3) := (M_in (z := z) (z' := uI (uO z 0 _) 0 1 0 0) R R3 C g4 c0').2
        have q2 : f_X8_isVane G (z.2.2.2 bX) (nI v) h3 = some (1, h3) := (V_in (z := z) (z' := uI (uO z 0 _) 0 1 0 0) R R3 C hn c1').2
        have x1 : gR 9 h3 (z.2.2.2 bX) 1 = some (z.2.2.2 (bst false)) := g_X_1 (z := uI (uO z 0 _) 0 1 0 0) R3
        have i8 : isC 8 h3 (z.2.2.2 (bst false)) = some () := c_ost (z := uI (uO z 0 _) 0 1 0 0) R3
        have st := s_mstand (z := uI (uO z 0 _) 0 1 0 0) R3 (b := false) (m := q) (v := v) (by omega) (by omega)
        have st : f_X7_stand G (z.2.2.2 (bst false)) (nI q) (nI v) h3 = some (mSide (z.1 13 q 0) (z.1 13 q 1) (z.1 12 v 6), h3) := st
        rw [← P.2.1]
        simp only [f_X8_stand, e3, rd_s, i9, q1, q2, bd_s, if_neg ne10, x1, i8, st, f_X8_stand_b38]
        exact congrArg (fun w => some (w, h3)) (S.1.side H hv hq).symm
    · exact hEx (Or.inr ⟨c0, c1⟩)
  · exact hEx (Or.inl c0)
