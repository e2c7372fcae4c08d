/-! ===== put ===== -/
theorem Rp.fr0 {G : GE} {z : Zs} {h : PH} (R : Rp G z h) (c : PC) : Rp G z (FR h c) :=
  R.up (Nat.le_succ _) (fun q hq => by
    have : ¬ q = h.1 := by omega
    simp [FR, va_up, this])
theorem init_X0 {G : GE} {h : PH} (q : Nat) (x : Int32) : f_X0_init G h.1 q x (FR h (.inr (1, [.null, .int 0]))) = some ((), FR h (.inr (1, [.ref q, .int x]))) := by
  have e0 : sF 1 (FR h (.inr (1, [.null, .int 0]))) h.1 0 (.ref q) = some (FR h (.inr (1, [.ref q, .int 0]))) := fr_sF 0 _ (show 0 < 2 by decide)
  have e1 : sF 1 (FR h (.inr (1, [.ref q, .int 0]))) h.1 1 (.int x) = some (FR h (.inr (1, [.ref q, .int x]))) := fr_sF 1 _ (show 1 < 2 by decide)
  simp only [f_X0_init, e0, rd_s, e1]
theorem Rp.nA {G : GE} {z : Zs} {h : PH} (R : Rp G z h) {i : Nat} (hi : z.2.1 52 ≤ i) (hi2 : i ≤ z.2.1 2) (r : Nat → Int32) : Rp G (nwE z 3 2 i (bae i) r h.1) (FR h (.inr (1, [.ref (z.2.2.2 (bmo (r 0).toNatClampNeg)), .int (r 1)]))) := by
  refine R.fr (bae i) _ ?_ (fun k d hk hd => ?_) nwE_a (fun k hk => nwE_p hk) (nwE_W R.2 (by decide))
  · rw [e_ae (by rw [nwE_c]; omega), nwE_s, nwE_p (fun e => by cases e)]
  · have hb := nwE_base (G := G) (z := z) (g := 3) (c := 2) (i := i) (l := bae i) (r := r) (q := h.1) (by decide) (by decide) rfl (fun q j hq hj e => by
      match q, hq with
      | 0, _ => cases e
      | 1, _ => cases e
      | 2, _ =>
        cases e
        exact absurd hj (Nat.not_lt.mpr hi)
      | 3, _ => cases e
      | 4, _ => cases e)
    rcases k with u|u|u|b|b|q|q|j|j|j|j|j|⟨b, j⟩|⟨b, q⟩
    · rw [hb _ rfl] at hd; exact hd
    · rw [hb _ rfl] at hd; exact hd
    · rw [hb _ rfl] at hd; exact hd
    · rw [hb _ rfl] at hd; exact hd
    · rw [hb _ rfl] at hd; exact hd
    · rw [hb _ rfl] at hd; exact hd
    · rw [hb _ rfl] at hd; exact hd
    · exact hd
    · exact hd
    · have hj : ¬ j = i := fun e => hk (by rw [e])
      by_cases hl : j < i
      · rw [e_ae (by rw [nwE_c]; omega), nwE_r (fun e => hj e.2), nwE_p (fun e => by cases e)] at hd
        rw [e_ae (by omega)]
        exact hd
      · simp only [ct, nwE_c, if_neg (show ¬ j < i + 1 by omega)] at hd
        cases hd
    · simp only [ct, nwE_p (show ¬ bho _ = bae i from fun e => by cases e)] at hd
      exact hd
    · exact hd
    · simp only [ct, nwE_p (show ¬ bms _ = bae i from fun e => by cases e)] at hd
      cases b <;> exact hd
    · rw [hb _ rfl] at hd; exact hd
theorem s_mput {G : GE} {z : Zs} {h : PH} (R : Rp G z h) {q mc H0 e : Nat} {x : Int32} (hq : q < mc) (hm : mc ≤ 12) (hM : z.1 10 0 7 = nI mc) (hH : z.1 10 0 0 = nI H0) (hx : isW (nI H0) 2000 x) (he : z.1 10 0 9 = nI e) (h20 : e < 20) : ∃ h', f_X8_put G (z.2.2.2 bX) (nI q) x h = some (nI (e + 1), h') ∧ Rp G (uI (uI (uI (uI z 0 1 0 0) 14 e 0 (nI q)) 14 e 1 x) 10 0 9 (nI (e + 1))) h' := by
  obtain ⟨h1, e1, R1⟩ := w_X_0 R 0
  obtain ⟨i9, x1, x2, i8, -⟩ := R1.nf
  have qm : f_X8_isMotion G (z.2.2.2 bX) (nI q) h1 = some (1, h1) := by
    have t := s_misMotion R1 (nI q)
    rw [show (uI z 0 1 0 0).1 10 0 7 = nI mc from hM, if_neg (N_in (by omega) ⟨q, hq, rfl⟩).1, if_neg (N_in (by omega) ⟨q, hq, rfl⟩).2.2] at t
    exact t
  have y0 : gI 8 h1 (z.2.2.2 (bst false)) 0 = some (nI H0) := by rw [← hH]; have t := g_st_0 R1 (b := false); exact t
  have y9 : gI 8 h1 (z.2.2.2 (bst false)) 9 = some (nI e) := by rw [← he]; have t := g_st_9 R1 (b := false); exact t
  have y10 : gR 8 h1 (z.2.2.2 (bst false)) 10 = some (z.2.2.2 (bsa false 5)) := by have t := g_st_10 R1 (b := false); exact t
  obtain ⟨h2, e2, R2⟩ := w_s5 R1 false (i := e) (k := 0) (by decide) h20 (nI q)
  have e2 : aIs h1 (z.2.2.2 (bsa false 5)) ((2 : Int32) * nI e) (nI q) = some h2 := by rw [ix2_0]; exact e2
  have a1 : gR 9 h2 (z.2.2.2 bX) 1 = some (z.2.2.2 (bst false)) := by have t := g_X_1 R2; exact t
  have a9 : gI 8 h2 (z.2.2.2 (bst false)) 9 = some (nI e) := by rw [← he]; have t := g_st_9 R2 (b := false); exact t
  have a10 : gR 8 h2 (z.2.2.2 (bst false)) 10 = some (z.2.2.2 (bsa false 5)) := by have t := g_st_10 R2 (b := false); exact t
  obtain ⟨h3, e3, R3⟩ := w_s5 R2 false (i := e) (k := 1) (by decide) h20 x
  have e3 : aIs h2 (z.2.2.2 (bsa false 5)) ((2 : Int32) * nI e + (1 : Int32)) x = some h3 := by rw [ix2_1]; exact e3
  have b1 : gR 9 h3 (z.2.2.2 bX) 1 = some (z.2.2.2 (bst false)) := by have t := g_X_1 R3; exact t
  have b9 : gI 8 h3 (z.2.2.2 (bst false)) 9 = some (nI e) := by rw [← he]; have t := g_st_9 R3 (b := false); exact t
  obtain ⟨h4, e4, R4⟩ := w_st_9 R3 (b := false) (nI (e + 1))
  have e4 : sF 8 h3 (z.2.2.2 (bst false)) 9 (.int (nI (e + 1))) = some h4 := e4
  have c1 : gR 9 h4 (z.2.2.2 bX) 1 = some (z.2.2.2 (bst false)) := by have t := g_X_1 R4; exact t
  have c9 : gI 8 h4 (z.2.2.2 (bst false)) 9 = some (nI (e + 1)) := by have t := g_st_9 R4 (b := false); exact t
  have n20 : ¬ nI e = (20 : Int32) := fun e' => by
    have := congrArg Int32.toInt e'
    rw [nI_toInt (by omega), show (20 : Int32) = nI 20 from rfl, nI_toInt (by omega)] at this
    omega
  refine ⟨h4, ?_, R4⟩
  simp only [f_X8_put, e1, rd_s, i9, qm, bd_s, if_neg ne10, x1, y0, (s_wI hx).2, y9, if_neg n20, y10, e2, a1, a10, a9, e3, b1, b9, nI_1, e4, c1, c9]
theorem Good.put {z z' : Zs} {m : Nat} {r : Nat → Int32} (g : Good z) (hm : m = z.2.1 2) (h20 : m < 20)
    (hg : ∀ q, ¬ q = 0 → ¬ q = 3 → ¬ q = 8 → ¬ q = 10 → ¬ q = 14 → z'.1 q = z.1 q) (h0 : ∀ k, z'.1 0 0 k = z.1 0 0 k)
    (h10 : ∀ k, ¬ k = 9 → z'.1 10 0 k = z.1 10 0 k) (hW : z'.1 10 0 9 = nI (m + 1)) (hc : ∀ c, ¬ c = 2 → ¬ c = 52 → ¬ c = 62 → z'.2.1 c = z.2.1 c) (hc0 : z'.2.1 2 = m + 1) (hc5 : z'.2.1 52 = m + 1)
    (w1 : z'.1 3 = u1 (z.1 3) m r) (w2 : ∀ j, ¬ j = m → z'.1 14 j = z.1 14 j) (w3 : z'.1 14 m 0 = r 0) (w4 : z'.1 14 m 1 = r 1) (hd : isB (z.2.1 1) (r 0)) (hx : isW (z.1 0 0 0) 2000 (r 1)) : Good z' := by
  obtain ⟨n, W, H0, ne, S, g1, g2, g3, g4, g5, g6, g7, g8, g9⟩ := g
  have hA := (ag_all S g6).1
  obtain ⟨⟨s1, s2, s3, s4, s5, s6⟩, ⟨C, hd0, hw0, ha0, hv0⟩, e3, M, e5, e6, e7, e8⟩ := S
  rw [g1] at hx
  obtain ⟨t, ht1, ht2, ht3⟩ := isW_nat (a := H0) (b := 2000) (by omega) (by decide) hx
  have k1 := hg 1 (by decide) (by decide) (by decide) (by decide) (by decide)
  have k2 := hg 2 (by decide) (by decide) (by decide) (by decide) (by decide)
  have k4 := hg 4 (by decide) (by decide) (by decide) (by decide) (by decide)
  have k5 := hg 5 (by decide) (by decide) (by decide) (by decide) (by decide)
  have k6 := hg 6 (by decide) (by decide) (by decide) (by decide) (by decide)
  have k7 := hg 7 (by decide) (by decide) (by decide) (by decide) (by decide)
  have k11 := hg 11 (by decide) (by decide) (by decide) (by decide) (by decide)
  have k12 := hg 12 (by decide) (by decide) (by decide) (by decide) (by decide)
  have k13 := hg 13 (by decide) (by decide) (by decide) (by decide) (by decide)
  have c0 := hc 0 (by decide) (by decide) (by decide)
  have c1 := hc 1 (by decide) (by decide) (by decide)
  have c3 := hc 3 (by decide) (by decide) (by decide)
  have c4 := hc 4 (by decide) (by decide) (by decide)
  have c5 := hc 5 (by decide) (by decide) (by decide)
  have c50 := hc 50 (by decide) (by decide) (by decide)
  have c51 := hc 51 (by decide) (by decide) (by decide)
  have c53 := hc 53 (by decide) (by decide) (by decide)
  have c54 := hc 54 (by decide) (by decide) (by decide)
  have kgv : ∀ b, z'.1 (gv b) = z.1 (gv b) := fun b => by cases b; exact k6; exact k7
  have hl : ∀ w, w < m + 1 → ¬ w = m → w < z.2.1 2 := fun w hw hn => by omega
  obtain ⟨p1, p2, p3, p4, p5, p6, p7, p8, p9⟩ := C
  have C' : CN z' n := by
    refine ⟨by rw [c50, c0]; exact p1, by rw [c0]; exact p2, by rw [c0]; exact p3, by rw [c51, c1]; exact p4, by rw [c1]; exact p5, by rw [hc5, hc0], by rw [hc0]; omega, ?_, ?_⟩
    · exact ⟨c53.trans p8.1, c4.trans p8.2.1, by rw [c3]; exact p8.2.2.1, p8.2.2.2⟩
    · exact ⟨c54.trans p9.1, c5.trans p9.2.1, by rw [c3]; exact p9.2.2.1, p9.2.2.2⟩
  have hrow : ∀ (P : (Nat → Int32) → Prop), P r → (∀ a, a < z.2.1 2 → P (z.1 3 a)) → ∀ a, a < m + 1 → P (z'.1 3 a) := by
    intro P hr ho a ha
    rw [w1]
    by_cases e : a = m
    · rw [e, u1_s]
      exact hr
    · rw [u1_n _ _ e]
      exact ho a (hl a ha e)
  refine ⟨n, W, H0, ne + 1, ⟨⟨?_, ?_, ?_, ?_, ?_, ?_⟩, ⟨C', ?_, ?_, ?_, ?_⟩, by rw [c0]; exact e3, ?_, ?_, by omega, ?_, ?_⟩, by rw [h0]; exact g1, g2, by rw [h0, h10 11 (by decide)]; exact g3, by rw [h10 7 (by decide), c1]; exact g4, ?_, ?_, ?_, ?_, by rw [c3]; exact g9⟩
  · intro j hj
    rw [kgv, show z'.1 (gm false 2) = z.1 (gm false 2) from k12]
    exact s1 j hj
  · intro j k hj hk
    rw [k4, show z'.1 (gm false 2) = z.1 (gm false 2) from k12]
    exact s2 j k hj hk
  · intro j e hj he
    rw [k5, mLe_c (z := z) (z' := z') (b := false) (fun u k _ => by rw [show z'.1 (gm false 2) = z.1 (gm false 2) from k12])]
    exact s3 j e hj he
  · intro w k hw hk
    rw [c0] at hw
    rw [k1, show z'.1 (gm false 1) = z.1 (gm false 1) from k11]
    exact s4 w k hw hk
  · intro q k hq hk
    rw [c1] at hq
    rw [k2, show z'.1 (gm false 3) = z.1 (gm false 3) from k13]
    exact s5 q k hq hk
  · intro q hq
    rw [c1] at hq
    rw [k2]
    exact s6 q hq
  · intro w hw
    rw [c0] at hw
    rw [k1]
    exact hd0 w hw
  · intro j hj
    rw [k4]
    exact hw0 j hj
  · intro a ha
    rw [hc0] at ha
    rw [c1]
    exact hrow (fun q => isB (z.2.1 1) (q 0)) hd ha0 a ha
  · intro j hj
    rw [kgv]
    exact hv0 j hj
  · obtain ⟨m1, m2, m3, m4, m5, m6, m7⟩ := M
    exact ⟨(h10 5 (by decide)).trans m1, m2, (h10 1 (by decide)).trans m3, m4, m5, (h10 0 (by decide)).trans m6, m7⟩
  · rw [hA, ← hm]
    exact hW
  · have e7' : rowL (z.1 14) m 0 = (rowL (z.1 3) m 0).filter (fun e => decide (nI H0 ≤ e.2)) := by
      have t : rowL (z.1 14) ne 0 = (rowL (z.1 3) (z.2.1 2) 0).filter (fun e => decide (nI H0 ≤ e.2)) := e7
      rw [hA, ← hm] at t
      exact t
    show rowL (z'.1 14) (ne + 1) 0 = (rowL (z'.1 3) (z'.2.1 2) 0).filter (fun e => decide (nI H0 ≤ e.2))
    rw [hc0, hA, ← hm, rowL_s, rowL_s, List.filter_append, Nat.zero_add, w3, w4, w1, u1_s]
    rw [rowL_c (f := z'.1 14) (g := z.1 14) m 0 0 (fun i hi => w2 _ (by omega)), rowL_c (f := u1 (z.1 3) m r) (g := z.1 3) m 0 0 (fun i hi => u1_n _ _ (by omega)), e7']
    congr 1
    have : nI H0 ≤ r 1 := by rw [ht3]; exact nI_le ht1 (by omega)
    simp [this]
  · rw [hc0]
    exact hrow (fun q => isB 2001 (q 1)) ⟨t, by omega, ht3⟩ e8
  · intro q k hq
    rw [c1] at hq
    rw [k2, show z'.1 (gm false 3) = z.1 (gm false 3) from k13]
    exact g5 q k hq
  · rw [hc0]
    exact hrow (fun q => nI H0 ≤ q 1) (by rw [ht3]; exact nI_le ht1 (by omega)) g6
  · rw [k11]
    exact g7
  · intro b j hj
    rw [kgv]
    exact g8 b j hj
def rA (q x : Int32) : Nat → Int32 := fun k => if k = 0 then q else x
theorem ls_put {G : GE} {x y o : Nat} : LS_put G x y o (IV G x y o) := by
  rintro h ⟨z, R, ⟨rfl, rfl, rfl⟩, Gd⟩ a0 a1
  have Gd' := Gd
  obtain ⟨n, W, H0, ne, S, g1, g2, g3, g4, g5, g6, g7, g8, g9⟩ := Gd
  have H := S.2.1
  have C := H.1
  have M := S.2.2.2.1
  have h16 := (C.t false).2.2.2
  have h12 := C.2.2.2.2.1
  have hn : z.1 10 0 5 = nI n := M.1
  have hw := H.wi H0
  have h31 : H0 < 2 ^ 31 := by omega
  have s0 : f_Jx4a65c_size_8abf5 G (z.2.2.2 (bL 2)) h = some (nI (z.2.1 2), h) := by rw [← show z.2.1 52 = z.2.1 2 from C.2.2.2.2.2.1]; exact s_size R (k := 2) (by decide)
  have hH : z.1 10 0 0 = nI H0 := M.2.2.2.2.2.1
  have he : z.1 10 0 9 = nI (z.2.1 2) := by rw [← (ag_all S g6).1]; exact S.2.2.2.2.1
  by_cases c0 : isB (z.2.1 1) a0
  rotate_left
  · refine both_no R Gd' (E := "java/lang/IndexOutOfBoundsException") 1 ?_ (by decide) (by decide) (fun h2 h3 h4 e3 R3 i9 e4 => ?_)
    · simp only [f_X6_put, c_oV R, rd_s, (M_out R R C g4 c0).1, bd_s, if_true]
    · have q1 : f_X8_isMotion G (z.2.2.2 bX) a0 h3 = some (0, h3) := (M_out (z := z) (z' := uI z 0 1 0 0) R R3 C g4 c0).2
      simp only [f_X8_put, e3, rd_s, i9, q1, bd_s, if_true, e4]
  have c0' := c0
  obtain ⟨q, hq, rfl⟩ := c0
  have hq1 : ∀ {h3 : PH}, Rp G (uI z 0 1 0 0) h3 → f_X8_isMotion G (z.2.2.2 bX) (nI q) h3 = some (1, h3) := fun R3 => (M_in (z := z) (z' := uI z 0 1 0 0) R R3 C g4 c0').2
  have hy0 : ∀ {h3 : PH}, Rp G (uI z 0 1 0 0) h3 → gI 8 h3 (z.2.2.2 (bst false)) 0 = some (nI H0) := fun R3 => by rw [← hH]; have t := g_st_0 R3 (b := false); exact t
  by_cases c1 : isW (nI H0) 2000 a1
  rotate_left
  · refine both_no R Gd' (E := "java/lang/IllegalArgumentException") 2 ?_ (by decide) (by decide) (fun h2 h3 h4 e3 R3 i9 e4 => ?_)
    · simp only [f_X6_put, c_oV R, rd_s, (M_in R R C g4 c0').1, bd_s, if_neg ne10, s_V6 R g1, (s_wO c1).1, if_true]
    · obtain ⟨-, x1, x2, i8, -⟩ : NF z h3 := R3.nf
      simp only [f_X8_put, e3, rd_s, i9, hq1 R3, bd_s, if_neg ne10, x1, hy0 R3, (s_wO c1).2, if_true, e4]
  by_cases c2 : z.2.1 2 < 20
  · have Rf := R.fr0 (.inr (1, [.null, .int 0]))
    have R2 := R.nA (i := z.2.1 2) (Nat.le_of_eq C.2.2.2.2.2.1) (Nat.le_refl _) (rA (nI q) a1)
    have R2 : Rp G (nwE z 3 2 (z.2.1 2) (bae (z.2.1 2)) (rA (nI q) a1) h.1) (FR h (.inr (1, [.ref (z.2.2.2 (bmo q)), .int a1]))) := by
      have t := R2
      rw [show (rA (nI q) a1 0).toNatClampNeg = q from nI_clamp (by omega)] at t
      exact t
    have p2 : ∀ l, ¬ l = bae (z.2.1 2) → (nwE z 3 2 (z.2.1 2) (bae (z.2.1 2)) (rA (nI q) a1) h.1).2.2.2 l = z.2.2.2 l := fun l hl => nwE_p hl
    have i2 : isC 0 (FR h (.inr (1, [.ref (z.2.2.2 (bmo q)), .int a1]))) (z.2.2.2 (bL 2)) = some () := by have t := c_oL R2 (k := 2) (by decide); rw [p2 _ (fun e => by cases e)] at t; exact t
    obtain ⟨h3, z3, e3, R3, N, ad, rfl⟩ := s_add R2 (k := 2) (n := z.2.1 2) (by decide) C.2.2.2.2.2.1 (by omega) (fun i hi => ⟨1, _, e_ae (by rw [nwE_c]; have hi : i < z.2.1 52 := hi; rw [show z.2.1 52 = z.2.1 2 from C.2.2.2.2.2.1] at hi; omega), by decide⟩) ⟨1, _, e_ae (by rw [nwE_c]; omega), by decide⟩
    have e3 : f_Jx4a65c_add_9ea2d G (z.2.2.2 (bL 2)) h.1 (FR h (.inr (1, [.ref (z.2.2.2 (bmo q)), .int a1]))) = some (1, h3) := by
      rw [p2 _ (fun e => by cases e), show el 2 (z.2.1 2) = bae (z.2.1 2) from rfl, nwE_a] at e3
      exact e3
    generalize hZ : uL (uI (nwE z 3 2 (z.2.1 2) (bae (z.2.1 2)) (rA (nI q) a1) h.1) 8 2 0 ((nwE z 3 2 (z.2.1 2) (bae (z.2.1 2)) (rA (nI q) a1) h.1).1 8 2 0 + 1)) 2 (z.2.1 2 + 1) N ad = Z at R3
    have pZ : ∀ l, ¬ l = bae (z.2.1 2) → ¬ l = bA 2 → Z.2.2.2 l = z.2.2.2 l := fun l h1 h2 => by rw [← hZ, uL_ad h2]; exact p2 l h1
    have zg : ∀ q, ¬ q = 3 → ¬ q = 8 → Z.1 q = z.1 q := fun q h1 h8 => by
      rw [← hZ]
      simp [uL, uI, uR, uG, nwE, h1, h8]
    have z1 : Z.1 3 = u1 (z.1 3) (z.2.1 2) (rA (nI q) a1) := by rw [← hZ]; rfl
    have zc : ∀ c, ¬ c = 2 → ¬ c = 52 → ¬ c = 62 → Z.2.1 c = z.2.1 c := fun c h0 h5 h6 => by
      rw [← hZ]
      simp [uL, uI, uR, uG, nwE, h0, h5, h6]
    have z0 : Z.2.1 2 = z.2.1 2 + 1 := by rw [← hZ]; rfl
    have z5 : Z.2.1 52 = z.2.1 2 + 1 := by rw [← hZ]; rfl
    have v3 : gR 7 h3 (z.2.2.2 bV) 3 = some (z.2.2.2 (bL 2)) := by have t := g_V_3 R3; rw [pZ _ (fun e => by cases e) (fun e => by cases e), pZ _ (fun e => by cases e) (fun e => by cases e)] at t; exact t
    have i3 : isC 0 h3 (z.2.2.2 (bL 2)) = some () := by have t := c_oL R3 (k := 2) (by decide); rw [pZ _ (fun e => by cases e) (fun e => by cases e)] at t; exact t
    have s3 : f_Jx4a65c_size_8abf5 G (z.2.2.2 (bL 2)) h3 = some (nI (z.2.1 2 + 1), h3) := by have t := s_size R3 (k := 2) (by decide); rw [pZ _ (fun e => by cases e) (fun e => by cases e), z5] at t; exact t
    refine both_ok R ⟨rfl, rfl, rfl⟩ (r := nI (z.2.1 2 + 1)) ⟨h3, Z, ?_, R3, ⟨pZ _ (fun e => by cases e) (fun e => by cases e), pZ _ (fun e => by cases e) (fun e => by cases e), pZ _ (fun e => by cases e) (fun e => by cases e)⟩, fun h4 R4 => ?_⟩
    · simp only [f_X6_put, c_oV R, rd_s, (M_in R R C g4 c0').1, bd_s, if_neg ne10, s_V6 R g1, (s_wI c1).1, g_V_3 R, c_oL R (show 2 < 5 by decide), s0, if_pos (show nI (z.2.1 2) < (20 : Int32) from nI_lt (b := 20) c2 (by decide)), fr_nw, g_V_2 Rf, c_oL Rf (show 1 < 5 by decide), s_getm Rf C hq, c_omo Rf hq, init_X0, i2, e3, v3, i3, s3]
    · have hWZ : Z.1 10 0 9 = nI (z.2.1 2) := by rw [zg 10 (by decide) (by decide)]; exact he
      have hMZ : Z.1 10 0 7 = nI (z.2.1 1) := by rw [zg 10 (by decide) (by decide)]; exact g4
      have hHZ : Z.1 10 0 0 = nI H0 := by rw [zg 10 (by decide) (by decide)]; exact hH
      obtain ⟨h5, e5, R5⟩ := s_mput R4 (q := q) (mc := z.2.1 1) (H0 := H0) (e := z.2.1 2) hq h12 hMZ hHZ c1 hWZ c2
      have e5 : f_X8_put G (Z.2.2.2 bX) (nI q) a1 h4 = some (nI (z.2.1 2 + 1), h5) := e5
      rw [pZ _ (fun e => by cases e) (fun e => by cases e)] at e5
      refine ⟨h5, _, e5, R5, ⟨pZ _ (fun e => by cases e) (fun e => by cases e), pZ _ (fun e => by cases e) (fun e => by cases e), pZ _ (fun e => by cases e) (fun e => by cases e)⟩, rfl, rfl, ?_⟩
      refine Good.put (z := z) (m := z.2.1 2) (r := rA (nI q) a1) Gd' rfl c2 (fun q q0 q1 q8 q10 q11 => ?_) (fun k => ?_) (fun k hk => ?_) rfl zc z0 z5 z1 (fun j hj => ?_) ?_ ?_ ⟨q, hq, rfl⟩ (by rw [g1]; exact c1)
      · rw [← zg q q1 q8]
        simp [uI, uR, uG, uO, q0, q1, q8, q10, q11]
      · show Z.1 0 0 k = _
        rw [zg 0 (by decide) (by decide)]
      · show u1 (Z.1 10 0) 9 _ k = _
        rw [u1_n _ _ hk, zg 10 (by decide) (by decide)]
      · show u1 (u1 (Z.1 14) (z.2.1 2) _) (z.2.1 2) _ j = _
        rw [u1_n _ _ hj, u1_n _ _ hj, zg 14 (by decide) (by decide)]
      · show u1 (u1 (Z.1 14) (z.2.1 2) _) (z.2.1 2) _ (z.2.1 2) 0 = _
        rw [u1_s, u1_n _ _ (by decide)]
        show u1 (Z.1 14) (z.2.1 2) _ (z.2.1 2) 0 = _
        rw [u1_s, u1_s]
        rfl
      · show u1 (u1 (Z.1 14) (z.2.1 2) _) (z.2.1 2) _ (z.2.1 2) 1 = _
        rw [u1_s, u1_s]
        rfl
  · have hM20 : z.2.1 2 = 20 := by have := C.2.2.2.2.2.2.1; omega
    refine both_no R Gd' (E := "java/lang/IllegalStateException") 3 ?_ (by decide) (by decide) (fun h2 h3 h4 e3 R3 i9 e4 => ?_)
    · simp only [f_X6_put, c_oV R, rd_s, (M_in R R C g4 c0').1, bd_s, if_neg ne10, s_V6 R g1, (s_wI c1).1, g_V_3 R, c_oL R (show 2 < 5 by decide), s0, if_neg (show ¬ nI (z.2.1 2) < (20 : Int32) by rw [hM20]; decide)]
    · obtain ⟨-, x1, x2, i8, -⟩ : NF z h3 := R3.nf
      have y1 : gI 8 h3 (z.2.2.2 (bst false)) 9 = some (20 : Int32) := by have t := g_st_9 R3 (b := false); rw [show (uI z 0 1 0 0).1 (gm false 0) 0 9 = (20 : Int32) by rw [show (uI z 0 1 0 0).1 (gm false 0) 0 9 = z.1 10 0 9 from rfl, he, hM20]; rfl] at t; exact t
      simp only [f_X8_put, e3, rd_s, i9, hq1 R3, bd_s, if_neg ne10, x1, hy0 R3, (s_wI c1).2, y1, if_true, e4]
