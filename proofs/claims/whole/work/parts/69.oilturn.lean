/-! ===== oil, turn ===== -/
theorem Good.rows {z z' : Zs} {v : Nat} {r s : Nat → Int32} (g : Good z) (h2 : z'.2 = z.2) (hg : ∀ q, ¬ q = 6 → ¬ q = 12 → z'.1 q = z.1 q) (e6 : z'.1 6 = u1 (z.1 6) v r) (e12 : z'.1 12 = u1 (z.1 12) v s) (hr : SR r s) (hb : VB r) (h4 : ∀ k, k < 4 → s k = z.1 12 v k) : Good z' := by
  obtain ⟨n, W, H0, ne, S, g1, g2, g3, g4, g5, g6, g7, g8, g9⟩ := g
  have k0 := hg 0 (by decide) (by decide)
  have k1 := hg 1 (by decide) (by decide)
  have k2 := hg 2 (by decide) (by decide)
  have k3 := hg 3 (by decide) (by decide)
  have k4 := hg 4 (by decide) (by decide)
  have k5 := hg 5 (by decide) (by decide)
  have k7 := hg 7 (by decide) (by decide)
  have k10 := hg 10 (by decide) (by decide)
  have k11 := hg 11 (by decide) (by decide)
  have k13 := hg 13 (by decide) (by decide)
  have k14 := hg 14 (by decide) (by decide)
  have hm : ∀ u k, k < 4 → z'.1 12 u k = z.1 12 u k := by
    intro u k hk
    rw [e12]
    by_cases e : u = v
    · rw [e, u1_s]
      exact h4 k hk
    · rw [u1_n _ _ e]
  have hsr : ∀ j, j < n → SR (z'.1 6 j) (z'.1 12 j) := by
    intro j hj
    rw [e6, e12]
    by_cases e : j = v
    · rw [e, u1_s, u1_s]
      exact hr
    · rw [u1_n _ _ e, u1_n _ _ e]
      exact S.1.1 j hj
  have hvb : ∀ j, j < n → VB (z'.1 6 j) := by
    intro j hj
    rw [e6]
    by_cases e : j = v
    · rw [e, u1_s]
      exact hb
    · rw [u1_n _ _ e]
      exact g8 false j hj
  have sk : SK z z' := ⟨h2, k1, k3, k4, k5, fun m k _ => by rw [k2]⟩
  have hN : z'.2.1 = z.2.1 := by rw [h2]
  refine ⟨n, W, H0, ne, ⟨S.1.mk' sk hm k11 (fun _ _ _ => by rw [show z'.1 (gm false 3) = z.1 (gm false 3) from k13]) hsr, S.2.1.sk sk hvb, by rw [hN]; exact S.2.2.1, S.2.2.2.1.of k10, by rw [show z'.1 (gm false 0) = z.1 (gm false 0) from k10]; exact S.2.2.2.2.1, S.2.2.2.2.2.1, ?_, by rw [hN, k3]; exact S.2.2.2.2.2.2.2⟩, by rw [k0]; exact g1, g2, by rw [k0, k10]; exact g3, by rw [hN, k10]; exact g4, ?_, by rw [hN, k3]; exact g6, by rw [k11]; exact g7, ?_, by rw [hN]; exact g9⟩
  · rw [hN, k3, show z'.1 (gm false 4) = z.1 (gm false 4) from k14]
    exact S.2.2.2.2.2.2.1
  · exact g5.of h2 k2 k13
  · intro b j hj
    cases b
    · exact hvb j hj
    · rw [show z'.1 (gv true) = z.1 (gv true) from k7]
      exact g8 true j hj
theorem ls_oil {G : GE} {x y o : Nat} : LS_oil G x y o (IV G x y o) := by
  rintro h ⟨z, R, ⟨rfl, rfl, rfl⟩, Gd⟩ a0
  have Gd' := Gd
  obtain ⟨n, W, H0, ne, S, g1, g2, g3, g4, g5, g6, g7, g8, g9⟩ := Gd
  have H := S.2.1
  have C := H.1
  have M := S.2.2.2.1
  have h16 := (C.t false).2.2.2
  have h12 := C.2.2.2.2.1
  have hn : z.1 10 0 5 = nI n := M.1
  have hw := H.wi H0
  have h31 : H0 < 2 ^ 31 := by omega
  by_cases c0 : isB n a0
  · have c0' := c0
    obtain ⟨v, hv, rfl⟩ := c0
    have hr : ∀ k, 4 ≤ k → k < 10 → z.1 6 v k = z.1 12 v k := S.1.1 v hv
    have hb : VB (z.1 6 v) := g8 false v hv
    obtain ⟨h1, e1, R1⟩ := s_takeOil R (b := false) ((C.t false).v hv)
    refine both_do R (r := z.1 6 v 5) (z1 := uR z 6 v (rOil (z.1 6 v))) (h1 := h1) ?_ R1 ⟨rfl, rfl, rfl⟩ (fun h2 h3 e3 R3 => ?_)
    · simp only [f_X6_oil, c_oV R, rd_s, (V_in R R C hn c0').1, bd_s, if_neg ne10, g_V_4 R, g_tn_0 R, c_oL R (lb_lt _), s_getv R (C.t false) hv, c_ovn R ((C.t false).v hv), g_vn_2 R ((C.t false).v hv), e1]
      rfl
    · obtain ⟨i9, x1, x2, i8, -⟩ : NF z h3 := R3.n0
      have e3 : sF 9 h2 (z.2.2.2 bX) 0 (.int 0) = some h3 := e3
      have q1 : f_X8_isVane G (z.2.2.2 bX) (nI v) h3 = some (1, h3) := (V_in (z := z) (z' := uI (uO (uR z 6 v (rOil (z.1 6 v))) 0 _) 0 1 0 0) R R3 C hn c0').2
      have q5 : f_X7_of G (z.2.2.2 (bst false)) (nI v) (5 : Int32) h3 = some (z.1 12 v 5, h3) := s_of_5 (b := false) R3 (show v < 16 by omega)
      obtain ⟨h4, e4, R4⟩ := s_moil (b := false) R3 (show v < 16 by omega)
      have e4 : f_X7_oil G (z.2.2.2 (bst false)) (nI v) h3 = some ((), h4) := e4
      refine ⟨h4, _, ?_, R4, ⟨rfl, rfl, rfl⟩, rfl, rfl, ?_⟩
      · simp only [f_X8_oil, e3, rd_s, i9, q1, bd_s, if_neg ne10, x1, i8, q5, e4]
        rw [hr 5 (by decide) (by decide)]
      · refine Good.rows ((Gd'.o (z.1 6 v 5).toInt64).thr 0) (v := v) (r := rOil (z.1 6 v)) (s := rOil (z.1 12 v)) rfl (fun q h6 h12 => ?_) rfl rfl (SR.oil hr) (VB_oil hb) (fun k hk => ?_)
        · simp [uI, uR, uG, uO, gm, h6, h12]
        · unfold rOil
          rw [u1_n _ _ (by omega), u1_n _ _ (by omega)]
          rfl
  · refine both_no R Gd' (E := "java/lang/IndexOutOfBoundsException") 1 ?_ (by decide) (by decide) (fun h2 h3 h4 e3 R3 i9 e4 => ?_)
    · simp only [f_X6_oil, c_oV R, rd_s, (V_out R R C hn c0).1, bd_s, if_true]
    · have q1 : f_X8_isVane G (z.2.2.2 bX) a0 h3 = some (0, h3) := (V_out (z := z) (z' := uI z 0 1 0 0) R R3 C hn c0).2
      simp only [f_X8_oil, e3, rd_s, i9, q1, bd_s, if_true, e4]
theorem ls_turn {G : GE} {x y o : Nat} : LS_turn G x y o (IV G x y o) := by
  rintro h ⟨z, R, ⟨rfl, rfl, rfl⟩, Gd⟩ a0 a1
  have Gd' := Gd
  obtain ⟨n, W, H0, ne, S, g1, g2, g3, g4, g5, g6, g7, g8, g9⟩ := Gd
  have H := S.2.1
  have C := H.1
  have M := S.2.2.2.1
  have h16 := (C.t false).2.2.2
  have h12 := C.2.2.2.2.1
  have hn : z.1 10 0 5 = nI n := M.1
  have hw := H.wi H0
  have h31 : H0 < 2 ^ 31 := by omega
  by_cases c0 : isB n a0
  · have c0' := c0
    obtain ⟨v, hv, rfl⟩ := c0
    have hr : ∀ k, 4 ≤ k → k < 10 → z.1 6 v k = z.1 12 v k := S.1.1 v hv
    have hb : VB (z.1 6 v) := g8 false v hv
    have hq1 : ∀ {w : Int32} {h3 : PH}, Rp G (uI z 0 1 0 w) h3 → f_X8_isVane G (z.2.2.2 bX) (nI v) h3 = some (1, h3) := fun R3 => (V_in (z := z) (z' := uI z 0 1 0 _) R R3 C hn c0').2
    by_cases c1 : isB 16 a1
    · have hd : f_X8_isIn G a1 0 15 = fun h => some (1, h) := funext fun h => (s_dirI c1).2
      by_cases c2 : z.1 6 v 8 ≤ 0
      · obtain ⟨h1, e1, R1⟩ := w_vn_3 R (b := false) ((C.t false).v hv) a1
        obtain ⟨h2, e2, R2⟩ := w_vn_4 R1 (b := false) (i := v) ((C.t false).v hv) 0
        have R2 : Rp G (uI (uI z 6 v 6 a1) 6 v 7 0) h2 := R2
        have e2 : sF 5 h1 (z.2.2.2 (bvn false v)) 4 (.int 0) = some h2 := e2
        rw [uI_eq z, uI_uR] at R2
        refine both_do R (r := z.1 6 v 6) (z1 := uR z 6 v (u1 (u1 (z.1 6 v) 6 a1) 7 0)) (h1 := h2) ?_ R2 ⟨rfl, rfl, rfl⟩ (fun h2 h3 e3 R3 => ?_)
        · have g5 : gI 5 h (z.2.2.2 (bvn false v)) 5 = some (z.1 6 v 8) := g_vn_5 R ((C.t false).v hv)
          have g3' : gI 5 h (z.2.2.2 (bvn false v)) 3 = some (z.1 6 v 6) := g_vn_3 R ((C.t false).v hv)
          simp only [f_X6_turn, c_oV R, rd_s, (V_in R R C hn c0').1, bd_s, if_neg ne10, (s_dirI c1).1, g_V_4 R, g_tn_0 R, c_oL R (lb_lt _), s_getv R (C.t false) hv, c_ovn R ((C.t false).v hv), g5, if_pos c2, g3', e1, e2]
        · obtain ⟨i9, x1, x2, i8, -⟩ : NF z h3 := R3.n0
          have e3 : sF 9 h2 (z.2.2.2 bX) 0 (.int 0) = some h3 := e3
          have q1 : f_X8_isVane G (z.2.2.2 bX) (nI v) h3 = some (1, h3) := (V_in (z := z) (z' := uI (uO (uR z 6 v (u1 (u1 (z.1 6 v) 6 a1) 7 0)) 0 _) 0 1 0 0) R R3 C hn c0').2
          have q8 : f_X7_of G (z.2.2.2 (bst false)) (nI v) (8 : Int32) h3 = some (z.1 12 v 8, h3) := s_of_8 (b := false) R3 (show v < 16 by omega)
          have q6 : f_X7_of G (z.2.2.2 (bst false)) (nI v) (6 : Int32) h3 = some (z.1 12 v 6, h3) := s_of_6 (b := false) R3 (show v < 16 by omega)
          have c2' : z.1 12 v 8 ≤ 0 := by rw [← hr 8 (by decide) (by decide)]; exact c2
          obtain ⟨h4, e4, R4⟩ := s_set_6 (b := false) R3 (show v < 16 by omega) a1
          have e4 : f_X7_set G (z.2.2.2 (bst false)) (nI v) (6 : Int32) a1 h3 = some ((), h4) := e4
          obtain ⟨h5, e5, R5⟩ := s_set_7 (b := false) R4 (show v < 16 by omega) 0
          have e5 : f_X7_set G (z.2.2.2 (bst false)) (nI v) (7 : Int32) 0 h4 = some ((), h5) := e5
          have y1 : gR 9 h4 (z.2.2.2 bX) 1 = some (z.2.2.2 (bst false)) := by have t := g_X_1 R4; exact t
          have y8 : isC 8 h4 (z.2.2.2 (bst false)) = some () := by have t := c_ost (b := false) R4; exact t
          refine ⟨h5, _, ?_, R5, ⟨rfl, rfl, rfl⟩, rfl, rfl, ?_⟩
          · simp only [f_X8_turn, e3, rd_s, i9, q1, bd_s, if_neg ne10, (s_dirI c1).2, x1, i8, q8, if_pos c2', q6, e4, y1, y8, e5]
            rw [hr 6 (by decide) (by decide)]
          · refine Good.rows ((Gd'.o (z.1 6 v 6).toInt64).thr 0) (v := v) (r := u1 (u1 (z.1 6 v) 6 a1) 7 0) (s := u1 (u1 (z.1 12 v) 6 a1) 7 0) rfl (fun q h6 h12 => ?_) rfl ?_ (((show SR (z.1 6 v) (z.1 12 v) from hr).u 6 rfl).u 7 rfl) ⟨hb.1, hb.2.1, c1, isS_0, hb.2.2.2.2⟩ (fun k hk => ?_)
            · simp [uI, uR, uG, uO, gm, h6, h12]
            · rw [uI_eq (uI (uO (uR z 6 v _) 0 _) 0 1 0 0), uI_uR, uR]
              exact uG_s _ (gm false 2) _
            · rw [u1_n _ _ (by omega), u1_n _ _ (by omega)]
              rfl
      · refine both_no R Gd' (E := "java/lang/IllegalStateException") 3 ?_ (by decide) (by decide) (fun h2 h3 h4 e3 R3 i9 e4 => ?_)
        · have g5 : gI 5 h (z.2.2.2 (bvn false v)) 5 = some (z.1 6 v 8) := g_vn_5 R ((C.t false).v hv)
          simp only [f_X6_turn, c_oV R, rd_s, (V_in R R C hn c0').1, bd_s, if_neg ne10, (s_dirI c1).1, g_V_4 R, g_tn_0 R, c_oL R (lb_lt _), s_getv R (C.t false) hv, c_ovn R ((C.t false).v hv), g5, if_neg c2]
        · obtain ⟨-, x1, x2, i8, -⟩ : NF z h3 := R3.nf
          have q8 : f_X7_of G (z.2.2.2 (bst false)) (nI v) (8 : Int32) h3 = some (z.1 12 v 8, h3) := s_of_8 (b := false) R3 (show v < 16 by omega)
          have c2' : ¬ z.1 12 v 8 ≤ 0 := by rw [← hr 8 (by decide) (by decide)]; exact c2
          simp only [f_X8_turn, e3, rd_s, i9, hq1 R3, bd_s, if_neg ne10, (s_dirI c1).2, x1, i8, q8, if_neg c2', e4]
    · refine both_no R Gd' (E := "java/lang/IllegalArgumentException") 2 ?_ (by decide) (by decide) (fun h2 h3 h4 e3 R3 i9 e4 => ?_)
      · simp only [f_X6_turn, c_oV R, rd_s, (V_in R R C hn c0').1, bd_s, if_neg ne10, (s_dirO c1).1, if_true]
      · simp only [f_X8_turn, e3, rd_s, i9, hq1 R3, bd_s, if_neg ne10, (s_dirO c1).2, if_true, e4]
  · refine both_no R Gd' (E := "java/lang/IndexOutOfBoundsException") 1 ?_ (by decide) (by decide) (fun h2 h3 h4 e3 R3 i9 e4 => ?_)
    · simp only [f_X6_turn, c_oV R, rd_s, (V_out R R C hn c0).1, bd_s, if_true]
    · have q1 : f_X8_isVane G (z.2.2.2 bX) a0 h3 = some (0, h3) := (V_out (z := z) (z' := uI z 0 1 0 0) R R3 C hn c0).2
      simp only [f_X8_turn, e3, rd_s, i9, q1, bd_s, if_true, e4]
