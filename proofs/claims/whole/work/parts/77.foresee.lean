/-! ===== foresee, passes ===== -/
theorem fin_ahead {z zf m : Zs} {r : Int64} (Gd : Good z) (A : AH true z zf) (hb : ∀ j, j < z.2.1 3 → VB (zf.1 7 j)) (p : m.2 = (uI (uO zf 0 r) 0 1 0 0).2) (q : ∀ g, g < 20 → m.1 g = (uI (uO zf 0 r) 0 1 0 0).1 g) : PL m (z.2.2.2 bV) (z.2.2.2 bX) (z.2.2.2 bO) ∧ m.1 0 1 0 = 0 ∧ m.2.2.1 0 = r ∧ Good m := by
  have hp : m.2.2.2 = z.2.2.2 := by
    rw [p]
    show zf.2.2.2 = z.2.2.2
    rw [A.1]
  have hA := EQV.ah A
  refine ⟨⟨by rw [hp], by rw [hp], by rw [hp]⟩, by rw [q 0 (by decide)]; rfl, by rw [p]; rfl, ?_⟩
  refine Gd.eqv (hA.tr ⟨by rw [p]; rfl, fun g h20 h0 h7 => ?_⟩) ?_ (fun j hj => ?_)
  · rw [q g h20]
    exact uG_n _ _ h0
  · rw [q 0 (by decide)]
    show zf.1 0 0 = z.1 0 0
    rw [A.z0]
  · rw [q 7 (by decide)]
    exact hb j hj
theorem ls_foresee {G : GE} {x y o : Nat} : LS_foresee G x y o (IV G x y o) := by
  rintro h ⟨z, R, ⟨rfl, rfl, rfl⟩, Gd⟩ a0 a1
  have Gd' := Gd
  obtain ⟨n, W, H0, ne, S, g1, g2, g3, g4, g5, g6, g7, g8, g9⟩ := Gd
  have H := S.2.1
  have C := H.1
  have M := S.2.2.2.1
  have h16 := (C.t false).2.2.2
  have h12 := C.2.2.2.2.1
  have hn : z.1 10 0 5 = nI n := M.1
  have hw := H.wi H0
  have h31 : H0 < 2 ^ 31 := by omega
  have hH : z.1 10 0 0 = nI H0 := M.2.2.2.2.2.1
  have hy0 : ∀ {w : Int32} {h3 : PH}, Rp G (uI z 0 1 0 w) h3 → gI 8 h3 (z.2.2.2 (bst false)) 0 = some (nI H0) := fun R3 => by rw [← hH]; have t := g_st_0 R3 (b := false); exact t
  by_cases c0 : isB n a0
  rotate_left
  · refine both_no R Gd' (E := "java/lang/IndexOutOfBoundsException") 1 ?_ (by decide) (by decide) (fun h2 h3 h4 e3 R3 i9 e4 => ?_)
    · simp only [f_X6_foresee, c_oV R, rd_s, bd_s, if_neg ne10, (V_out R R C hn c0).1, if_true]
    · obtain ⟨-, x1, x2, i8, -⟩ : NF z h3 := R3.nf
      simp only [f_X8_foresee, e3, rd_s, i9, bd_s, if_neg ne10, x1, (show f_X8_isVane G (z.2.2.2 bX) a0 h3 = some (0, h3) from (V_out (z := z) (z' := uI z 0 1 0 0) R R3 C hn c0).2), if_true, e4]
  have c0' := c0
  obtain ⟨v, hv, rfl⟩ := c0
  have hq1 : ∀ {h3 : PH}, Rp G (uI z 0 1 0 0) h3 → f_X8_isVane G (z.2.2.2 bX) (nI v) h3 = some (1, h3) := fun R3 => (V_in (z := z) (z' := uI z 0 1 0 0) R R3 C hn c0').2
  by_cases c1 : isW 0 100 a1
  rotate_left
  · refine both_no R Gd' (E := "java/lang/IllegalArgumentException") 2 ?_ (by decide) (by decide) (fun h2 h3 h4 e3 R3 i9 e4 => ?_)
    · simp only [f_X6_foresee, c_oV R, rd_s, bd_s, if_neg ne10, (V_in R R C hn c0').1, (s_wO c1).1, if_true]
    · obtain ⟨-, x1, x2, i8, -⟩ : NF z h3 := R3.nf
      simp only [f_X8_foresee, e3, rd_s, i9, bd_s, if_neg ne10, x1, hq1 R3, (s_wO c1).2, if_true, e4]
  obtain ⟨N, hN1, hN2, rfl⟩ := isW_nat (a := 0) (b := 100) (by decide) (by decide) c1
  by_cases c2 : H0 + N ≤ 2000
  rotate_left
  · have c2' : ¬ nI (H0 + N) ≤ (2000 : Int32) := nI_ge (b := H0 + N) (a := 2000) (by omega) (by omega)
    refine both_no R Gd' (E := "java/lang/IllegalStateException") 3 ?_ (by decide) (by decide) (fun h2 h3 h4 e3 R3 i9 e4 => ?_)
    · simp only [f_X6_foresee, c_oV R, rd_s, bd_s, if_neg ne10, (V_in R R C hn c0').1, (s_wI c1).1, s_V6 R g1, nI_add, if_neg c2', if_true]
    · obtain ⟨-, x1, x2, i8, -⟩ : NF z h3 := R3.nf
      simp only [f_X8_foresee, e3, rd_s, i9, bd_s, if_neg ne10, x1, hq1 R3, (s_wI c1).2, hy0 R3, nI_add, if_neg c2', if_true, e4]
  have c2' : nI (H0 + N) ≤ (2000 : Int32) := nI_le (a := H0 + N) (b := 2000) c2 (by decide)
  have hCA0 : (cA n z).1 0 0 0 = nI H0 := g1
  obtain ⟨h1, e1, R1⟩ := s_copyC C (AH.rf true z) R
  obtain ⟨h2, zf, e2, R2, B2, A2⟩ := sl_foresee (G := G) (n := n) (v := v) (H0 := H0) (N := N) (by omega) hv N 0 LF (cA n z) h1 (by omega) (by unfold LF; omega) R1 (cA_HB H) hCA0
  have e2 : f_X6_foresee_b73 G LF (z.2.2.2 bV) (nI v) (nI N) (0 : Int32) h1 = some (.inl ((foZ n H0 N 0 (cA n z)).1 7 v 6), h2) := e2
  generalize hK : (foZ n H0 N 0 (cA n z)).1 7 v 6 = K at e2
  have A2 : AH true z zf := (cA_AH n z).tr A2
  have hz2 : zf.2 = z.2 := A2.1
  refine both_do R (r := K) (h1 := h2) (z1 := zf) ?_ R2 ⟨by rw [hz2], by rw [hz2], by rw [hz2]⟩ (fun h2 h3 e3 R3 => ?_)
  · simp only [f_X6_foresee, c_oV R, rd_s, (V_in R R C hn c0').1, bd_s, if_neg ne10, (s_wI c1).1, s_V6 R g1, nI_add, if_pos c2', g_V_5 R, g_V_4 R, c_otn R, e1, e2]
  · have E : EQV z (uI (uO zf 0 K.toInt64) 0 1 0 0) := (EQV.ah A2).tr (EQV.o0 zf _ 0)
    obtain ⟨i9, x1, x2, i8, i8'⟩ : NF zf h3 := R3.n0
    have hn' : (uI (uO zf 0 K.toInt64) 0 1 0 0).1 10 0 5 = nI n := by rw [E.2 10 (by decide) (by decide) (by decide)]; exact hn
    have q1 : f_X8_isVane G (zf.2.2.2 bX) (nI v) h3 = some (1, h3) := (V_in (z := z) (z' := uI (uO zf 0 K.toInt64) 0 1 0 0) R R3 C hn' c0').2
    have y0 : gI 8 h3 (zf.2.2.2 (bst false)) 0 = some (nI H0) := by rw [← hH, ← E.2 10 (by decide) (by decide) (by decide)]; have t := g_st_0 R3 (b := false); exact t
    obtain ⟨h4, m1, e4, R4, B1, p1, q1'⟩ := s_become2 R3 E g7
    have e4 : f_X7_become G (zf.2.2.2 (bst true)) (zf.2.2.2 (bst false)) h3 = some ((), h4) := e4
    obtain ⟨h5, m5, e5, R5, O5⟩ := sl_mforesee (G := G) (n := n) (W := W) (N := N) (H0 := H0) (v := v) c2 hv N 0 LF (cA n z) m1 h4 ne (by omega) (by unfold LF; omega) R4 (S.ahead B1)
    rw [p1] at e5
    have e5 : f_X8_foresee_b69 G LF (zf.2.2.2 bX) (nI v) (nI N) (0 : Int32) h4 = some ((foZ n H0 N 0 (cA n z)).1 7 v 6, h5) := e5
    rw [hK] at e5
    obtain ⟨f1, f2, f3, f4⟩ := fin_ahead Gd' A2 (fun j hj => B2.2.2.2.2 j (by rw [← g9]; exact hj)) (m := m5) (r := K.toInt64) (O5.1.trans p1) (fun g hg => (O5.2 g (fun j _ => by show ¬ g = 20 + j; omega)).trans (q1' g hg))
    refine ⟨h5, m5, ?_, R5, f1, f2, f3, f4⟩
    rw [← hz2]
    simp only [f_X8_foresee, e3, rd_s, i9, q1, bd_s, if_neg ne10, (s_wI c1).2, x1, y0, nI_add, if_pos c2', x2, i8', e4, e5]
theorem ls_passes {G : GE} {x y o : Nat} : LS_passes G x y o (IV G x y o) := by
  rintro h ⟨z, R, ⟨rfl, rfl, rfl⟩, Gd⟩ a0 a1
  have Gd' := Gd
  obtain ⟨n, W, H0, ne, S, g1, g2, g3, g4, g5, g6, g7, g8, g9⟩ := Gd
  have H := S.2.1
  have C := H.1
  have M := S.2.2.2.1
  have h16 := (C.t false).2.2.2
  have h12 := C.2.2.2.2.1
  have hn : z.1 10 0 5 = nI n := M.1
  have hw := H.wi H0
  have h31 : H0 < 2 ^ 31 := by omega
  have hH : z.1 10 0 0 = nI H0 := M.2.2.2.2.2.1
  have hy0 : ∀ {w : Int32} {h3 : PH}, Rp G (uI z 0 1 0 w) h3 → gI 8 h3 (z.2.2.2 (bst false)) 0 = some (nI H0) := fun R3 => by rw [← hH]; have t := g_st_0 R3 (b := false); exact t
  by_cases c0 : isB (z.2.1 1) a0
  rotate_left
  · refine both_no R Gd' (E := "java/lang/IndexOutOfBoundsException") 1 ?_ (by decide) (by decide) (fun h2 h3 h4 e3 R3 i9 e4 => ?_)
    · simp only [f_X6_passes, c_oV R, rd_s, bd_s, if_neg ne10, (M_out R R C g4 c0).1, if_true]
    · obtain ⟨-, x1, x2, i8, -⟩ : NF z h3 := R3.nf
      simp only [f_X8_passes, e3, rd_s, i9, bd_s, if_neg ne10, x1, (show f_X8_isMotion G (z.2.2.2 bX) a0 h3 = some (0, h3) from (M_out (z := z) (z' := uI z 0 1 0 0) R R3 C g4 c0).2), if_true, e4]
  have c0' := c0
  obtain ⟨v, hv, rfl⟩ := c0
  have hq1 : ∀ {h3 : PH}, Rp G (uI z 0 1 0 0) h3 → f_X8_isMotion G (z.2.2.2 bX) (nI v) h3 = some (1, h3) := fun R3 => (M_in (z := z) (z' := uI z 0 1 0 0) R R3 C g4 c0').2
  by_cases c1 : isW 1 100 a1
  rotate_left
  · refine both_no R Gd' (E := "java/lang/IllegalArgumentException") 2 ?_ (by decide) (by decide) (fun h2 h3 h4 e3 R3 i9 e4 => ?_)
    · simp only [f_X6_passes, c_oV R, rd_s, bd_s, if_neg ne10, (M_in R R C g4 c0').1, (s_wO c1).1, if_true]
    · obtain ⟨-, x1, x2, i8, -⟩ : NF z h3 := R3.nf
      simp only [f_X8_passes, e3, rd_s, i9, bd_s, if_neg ne10, x1, hq1 R3, (s_wO c1).2, if_true, e4]
  obtain ⟨N, hN1, hN2, rfl⟩ := isW_nat (a := 1) (b := 100) (by decide) (by decide) c1
  by_cases c2 : H0 + N ≤ 2000
  rotate_left
  · have c2' : ¬ nI (H0 + N) ≤ (2000 : Int32) := nI_ge (b := H0 + N) (a := 2000) (by omega) (by omega)
    refine both_no R Gd' (E := "java/lang/IllegalStateException") 3 ?_ (by decide) (by decide) (fun h2 h3 h4 e3 R3 i9 e4 => ?_)
    · simp only [f_X6_passes, c_oV R, rd_s, bd_s, if_neg ne10, (M_in R R C g4 c0').1, (s_wI c1).1, s_V6 R g1, nI_add, if_neg c2', if_true]
    · obtain ⟨-, x1, x2, i8, -⟩ : NF z h3 := R3.nf
      simp only [f_X8_passes, e3, rd_s, i9, bd_s, if_neg ne10, x1, hq1 R3, (s_wI c1).2, hy0 R3, nI_add, if_neg c2', if_true, e4, f_X8_passes_b65]
  have c2' : nI (H0 + N) ≤ (2000 : Int32) := nI_le (a := H0 + N) (b := 2000) c2 (by decide)
  have hCA0 : (cA n z).1 0 0 0 = nI H0 := g1
  obtain ⟨h1, e1, R1⟩ := s_copyC C (AH.rf true z) R
  have hq' : v < (cA n z).2.1 1 := hv
  have hHB := cA_HB H
  obtain ⟨h2, zf, e2, R2, B2, A2⟩ := s_hours R1 hHB hq' hCA0 c2
  have e2 : f_X6_hoursUntilItPasses G (z.2.2.2 bV) (z.2.2.2 (bmo v)) (nI N) h1 = some (nI (hwP v n H0 N 0 (cA n z)), h2) := e2
  have A2 : AH true z zf := (cA_AH n z).tr A2
  have hz2 : zf.2 = z.2 := A2.1
  have hT : hwP v n H0 N 0 (cA n z) ≤ 0 + N := hwP_le v n H0 N 0 _
  have u2 : gR 7 h1 (z.2.2.2 bV) 2 = some (z.2.2.2 (bL 1)) := by have t := g_V_2 R1; exact t
  have u3 : isC 0 h1 (z.2.2.2 (bL 1)) = some () := by have t := c_oL R1 (k := 1) (by decide); exact t
  have u4 : f_Jx4a65c_get_915e3 G (z.2.2.2 (bL 1)) (nI v) h1 = some (z.2.2.2 (bmo v), h1) := by have t := s_getm R1 hHB.1 hq'; exact t
  have u5 : isC 3 h1 (z.2.2.2 (bmo v)) = some () := by have t := c_omo R1 hq'; exact t
  have u6 : isC 7 h1 (z.2.2.2 bV) = some () := by have t := c_oV R1; exact t
  have u7 : gI 7 h2 (z.2.2.2 bV) 6 = some (nI H0) := by rw [← hz2]; exact s_V6 R2 (by rw [A2.z0]; exact g1)
  have hcls : f_X6_passes G (z.2.2.2 bV) (nI v) (nI N) h = some (.inl (if hwP v n H0 N 0 (cA n z) < N then nI (H0 + hwP v n H0 N 0 (cA n z)) else -1), h2) := by
    by_cases c : hwP v n H0 N 0 (cA n z) < N
    · rw [if_pos c]
      simp only [f_X6_passes, c_oV R, rd_s, (M_in R R C g4 c0').1, bd_s, if_neg ne10, (s_wI c1).1, s_V6 R g1, nI_add, if_pos c2', g_V_5 R, g_V_4 R, c_otn R, e1, u2, u3, u4, u5, u6, e2, if_neg (show ¬ nI N ≤ nI (hwP v n H0 N 0 (cA n z)) from nI_ge c (by omega)), u7, f_X6_passes_b103]
    · rw [if_neg c]
      simp only [f_X6_passes, c_oV R, rd_s, (M_in R R C g4 c0').1, bd_s, if_neg ne10, (s_wI c1).1, s_V6 R g1, nI_add, if_pos c2', g_V_5 R, g_V_4 R, c_otn R, e1, u2, u3, u4, u5, u6, e2, if_pos (show nI N ≤ nI (hwP v n H0 N 0 (cA n z)) from nI_le (by omega) (by omega)), f_X6_passes_b103]
  refine both_do R (h1 := h2) (z1 := zf) hcls R2 ⟨by rw [hz2], by rw [hz2], by rw [hz2]⟩ (fun h2 h3 e3 R3 => ?_)
  generalize hK : (if hwP v n H0 N 0 (cA n z) < N then nI (H0 + hwP v n H0 N 0 (cA n z)) else (-1 : Int32)) = K at R3
  have E : EQV z (uI (uO zf 0 K.toInt64) 0 1 0 0) := (EQV.ah A2).tr (EQV.o0 zf _ 0)
  obtain ⟨i9, x1, x2, i8, i8'⟩ : NF zf h3 := R3.n0
  have hn' : (uI (uO zf 0 K.toInt64) 0 1 0 0).1 10 0 7 = nI (z.2.1 1) := by rw [E.2 10 (by decide) (by decide) (by decide)]; exact g4
  have q1 : f_X8_isMotion G (zf.2.2.2 bX) (nI v) h3 = some (1, h3) := (M_in (z := z) (z' := uI (uO zf 0 K.toInt64) 0 1 0 0) R R3 C hn' c0').2
  have y0 : gI 8 h3 (zf.2.2.2 (bst false)) 0 = some (nI H0) := by rw [← hH, ← E.2 10 (by decide) (by decide) (by decide)]; have t := g_st_0 R3 (b := false); exact t
  obtain ⟨h5, m5, e5, R5, p5, q5⟩ := s_mfirst0 (n := n) (W := W) (H0 := H0) (ne := ne) (N := N) (q := v) R3 S E g7 c2 hv
  have e5 : f_X8_first G (zf.2.2.2 bX) (nI v) (nI N) (-1 : Int32) h3 = some (if hwP v n H0 N 0 (cA n z) < N then nI (H0 + hwP v n H0 N 0 (cA n z)) else -1, h5) := e5
  rw [hK] at e5
  obtain ⟨f1, f2, f3, f4⟩ := fin_ahead Gd' A2 (fun j hj => B2.2.2.2.2 j (by rw [← g9]; exact hj)) (m := m5) (r := K.toInt64) p5 q5
  refine ⟨h5, m5, ?_, R5, f1, f2, f3, f4⟩
  rw [← hz2]
  simp only [f_X8_passes, e3, rd_s, i9, q1, bd_s, if_neg ne10, (s_wI c1).2, x1, y0, nI_add, if_pos c2', e5, f_X8_passes_b65]
