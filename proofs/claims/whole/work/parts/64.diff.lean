/-! ===== calls: what was thrown; differences ===== -/
theorem SimH.m0 {n W t ne : Nat} {c m : Zs} {b d : Bool} (S : SimH n W t ne c b m d) (i k : Nat) (x : Int32) : SimH n W t ne c b (uI m 0 i k x) d := by
  have e : ∀ j, (uI m 0 i k x).1 (gm d j) = m.1 (gm d j) := fun j => uG_n _ _ (by have := gm_ge d j; omega)
  obtain ⟨s1, s2, s3, s4, s5, s6, s7, s8⟩ := S
  refine ⟨s1.mk' (SK.rfl' c) (fun u q _ => by rw [e]) (e 1) (fun u q _ => by rw [e]) (fun j hj => by rw [e]; exact s1.1 j hj), s2, s3, s4.of (e 0), by rw [e]; exact s5, s6, by rw [e]; exact s7, s8⟩
theorem Good.thr {z : Zs} (g : Good z) (x : Int32) : Good (uI z 0 1 0 x) := by
  obtain ⟨n, W, H0, ne, s, g1, g2, g3, g4, g5, g6, g7, g8, g9⟩ := g
  refine ⟨n, W, H0, ne, (s.m0 1 0 x).u0 1 0 x, g1, g2, g3, g4, g5, g6, g7, fun b j hj => ?_, g9⟩
  cases b <;> exact g8 _ j hj
theorem PL.thr {z : Zs} {x y o : Nat} (P : PL z x y o) (v : Int32) : PL (uI z 0 1 0 v) x y o := P
theorem uI_uI (z : Zs) (g i k : Nat) (x y : Int32) : uI (uI z g i k x) g i k y = uI z g i k y := by
  rw [uI_eq z, uI_uR, uI_eq z]
  congr 1
  exact u1_u1 _ _ _ _
theorem s_no2 {G : GE} {z : Zs} {h : PH} {v : Int32} (R : Rp G (uI z 0 1 0 v) h) (k : Int32) : ∃ h', f_X8_no G (z.2.2.2 bX) k h = some (0, h') ∧ Rp G (uI z 0 1 0 k) h' := by
  obtain ⟨h', e, R'⟩ := s_no R k
  rw [uI_uI] at R'
  exact ⟨h', e, R'⟩
theorem isB_of {x : Int32} {N : Nat} (hN : N < 2 ^ 31) (h0 : ¬ x < 0) (h1 : ¬ nI N ≤ x) : isB N x := by
  obtain ⟨j, hj, rfl⟩ := nI_of h0
  exact ⟨j, Nat.lt_of_not_le (fun q => h1 (nI_le q hj)), rfl⟩
/-- within 0 and N - 1, however it is asked -/
theorem in_lt {x : Int32} {N : Nat} (hN : N + 1 < 2 ^ 31) : (nI N < x) ↔ (nI (N + 1) ≤ x) ∨ (nI N < x) := ⟨Or.inr, fun h => h.elim (fun q => by
    have h3 := Int32.le_iff_toInt_le.mp q
    rw [nI_toInt (by omega)] at h3
    refine Int32.lt_iff_toInt_lt.mpr ?_
    rw [nI_toInt (by omega)]
    omega) id⟩
theorem lt_le {x : Int32} {N : Nat} (hN : N + 1 < 2 ^ 31) : (nI N < x) ↔ (nI (N + 1) ≤ x) := by
  rw [Int32.lt_iff_toInt_lt, Int32.le_iff_toInt_le, nI_toInt (by omega), nI_toInt (by omega)]
  omega
theorem D_in {x : Int32} (h : isB 16 x) : ¬ x < 0 ∧ ¬ (16 : Int32) ≤ x ∧ ¬ (15 : Int32) < x := by
  obtain ⟨j, hj, rfl⟩ := h
  exact ⟨nI_pos (by omega), nI_ge (b := 16) hj (by decide), nI_nlt (a := 15) (by omega) (by decide)⟩
theorem D_out {x : Int32} (h : ¬ isB 16 x) : (x < 0 ∧ True) ∨ (¬ x < 0 ∧ (16 : Int32) ≤ x ∧ (15 : Int32) < x) := by
  by_cases c : x < 0
  · exact Or.inl ⟨c, trivial⟩
  · by_cases c2 : (16 : Int32) ≤ x
    · exact Or.inr ⟨c, c2, (lt_le (N := 15) (by decide)).mpr c2⟩
    · exact absurd (isB_of (N := 16) (by decide) c c2) h
theorem s_dirI {G : GE} {h : PH} {x : Int32} (hx : isB 16 x) : f_X6_isDirection G x h = some (1, h) ∧ f_X8_isIn G x 0 15 h = some (1, h) := by
  obtain ⟨a, b, c⟩ := D_in hx
  rw [s_isDirection, s_isIn, if_neg a, if_neg b, if_neg a, if_neg c]
  exact ⟨rfl, rfl⟩
theorem s_dirO {G : GE} {h : PH} {x : Int32} (hx : ¬ isB 16 x) : f_X6_isDirection G x h = some (0, h) ∧ f_X8_isIn G x 0 15 h = some (0, h) := by
  rw [s_isDirection, s_isIn]
  rcases D_out hx with ⟨a, -⟩ | ⟨a, b, c⟩
  · rw [if_pos a, if_pos a]
    exact ⟨rfl, rfl⟩
  · rw [if_neg a, if_pos b, if_neg a, if_pos c]
    exact ⟨rfl, rfl⟩
theorem ls_difference {G : GE} {x y o : Nat} : LS_difference G x y o (IV G x y o) := by
  rintro h ⟨z, R, P, Gd⟩ a0 a1
  have hEx : (¬ isB 16 a0 ∨ isB 16 a0 ∧ ¬ isB 16 a1) → stX G x y o (f_X6_difference G x a0 a1 h) okE_L_difference cd_L_difference (fun h => f_X8_difference G y a0 a1 h) h (IV G x y o) := by
    intro hc
    refine both_ex R P (E := "java/lang/IllegalArgumentException") ?_ (by decide) (fun h2 R2 => ?_)
    · rcases hc with hc | ⟨hc, hc2⟩
      · simp only [f_X6_difference, (s_dirO hc).1, bd_s, if_true, f_X6_difference_b14]
      · simp only [f_X6_difference, (s_dirI hc).1, (s_dirO hc2).1, bd_s, if_true, if_neg (show ¬ (1 : Int32) = 0 by decide), f_X6_difference_b14]
    · obtain ⟨h3, e3, R3⟩ := w_X_0 R2 0
      obtain ⟨h4, e4, R4⟩ := s_no2 R3 1
      have i9 : isC 9 h3 (z.2.2.2 bX) = some () := c_oX (z := uI z 0 1 0 0) R3
      refine ⟨0, h4, _, ?_, R4, P.thr 1, rfl, Gd.thr 1⟩
      rw [← P.2.1]
      rcases hc with hc | ⟨hc, hc2⟩
      · simp only [f_X8_difference, e3, rd_s, (s_dirO hc).2, bd_s, if_true, f_X8_difference_b33, i9, e4, f_X8_difference_b38]
      · simp only [f_X8_difference, e3, rd_s, (s_dirI hc).2, (s_dirO hc2).2, bd_s, if_true, if_neg (show ¬ (1 : Int32) = 0 by decide), f_X8_difference_b33, i9, e4, f_X8_difference_b38]
  by_cases c0 : isB 16 a0
  · by_cases c1 : isB 16 a1
    · refine both_ok R P (r := kSteps a0 a1) ⟨h, z, ?_, R, P, fun h2 R2 => ?_⟩
      · simp only [f_X6_difference, (s_dirI c0).1, (s_dirI c1).1, bd_s, if_neg (show ¬ (1 : Int32) = 0 by decide), f_X6_steps]
        rfl
      · obtain ⟨h3, e3, R3⟩ := w_X_0 R2 0
        refine ⟨h3, _, ?_, R3, P, rfl, rfl, (Gd.o _).thr 0⟩
        have e3 : sF 9 h2 (z.2.2.2 bX) 0 (.int 0) = some h3 := e3
        rw [← P.2.1]
        simp only [f_X8_difference, e3, rd_s, (s_dirI c0).2, (s_dirI c1).2, bd_s, if_neg (show ¬ (1 : Int32) = 0 by decide), s_apart, f_X8_difference_b38, steps_apart c0 c1]
    · exact hEx (Or.inr ⟨c0, c1⟩)
  · exact hEx (Or.inl c0)
