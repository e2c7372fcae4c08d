/-! ===== advise ===== -/
theorem hwP_ge (m n H0 : Nat) : ∀ d i z, i ≤ hwP m n H0 d i z := by
  intro d
  induction d with
  | zero => intro i z; exact Nat.le_refl _
  | succ d ih =>
    intro i z
    rw [hwP]
    split
    · have := ih (i + 1) (hoS true n 0 (H0 + i) z)
      omega
    · exact Nat.le_refl _
theorem hwP_min (m n H0 : Nat) : ∀ d d' i z, d ≤ d' → hwP m n H0 d i z = min (hwP m n H0 d' i z) (i + d) := by
  intro d
  induction d with
  | zero =>
    intro d' i z _
    have := hwP_ge m n H0 d' i z
    rw [hwP]
    omega
  | succ d ih =>
    intro d' i z hd
    obtain ⟨e, rfl⟩ : ∃ e, d' = e + 1 := ⟨d' - 1, by omega⟩
    rw [hwP, hwP]
    by_cases c : kCarr (blS true n (H0 + i) z) true m n = 0
    · rw [if_pos c, if_pos c, ih e (i + 1) _ (by omega)]
      omega
    · rw [if_neg c, if_neg c]
      omega
/-- the vane whose oil helps soonest -/
def adK (q n H0 : Nat) (z : Zs) : Nat → Nat → Nat → Int32 → Int32
  | 0, _, _, b => b
  | d + 1, v, s, b => if s ≤ hwP q n H0 s 0 (cV n v z) then adK q n H0 z d (v + 1) s b else adK q n H0 z d (v + 1) (hwP q n H0 s 0 (cV n v z)) (nI v)
theorem sl_advise {G : GE} {n q H0 : Nat} {z : Zs} (H : HB z false n) (hq : q < z.2.1 1) (hH : z.1 0 0 0 = nI H0) : ∀ d v fuel s b y h, v + d = n → d < fuel → H0 + s ≤ 2000 → AH true z y → HB y true n → Rp G y h →
    ∃ h' y', f_X6_advise_b94 G fuel (z.2.2.2 bV) (nI q) (nI s) b (nI v) h = some (.inl (adK q n H0 z d v s b), h') ∧ Rp G y' h' ∧ HB y' true n ∧ AH true z y' := by
  have h16 := (H.1.t false).2.2.2
  intro d
  induction d with
  | zero =>
    intro v fuel s b y h hv hf hs A B R
    obtain ⟨fuel, rfl⟩ : ∃ q, fuel = q + 1 := ⟨fuel - 1, by omega⟩
    obtain rfl : v = n := by omega
    have u1 : gR 7 h (z.2.2.2 bV) 5 = some (z.2.2.2 (btn true)) := by rw [← A.1]; exact g_V_5 R
    have u2 : gR 4 h (z.2.2.2 (btn true)) 0 = some (z.2.2.2 (bL (lb true))) := by rw [← A.1]; exact g_tn_0 R
    have u3 : isC 0 h (z.2.2.2 (bL (lb true))) = some () := by rw [← A.1]; exact c_oL R (lb_lt _)
    have u4 : f_Jx4a65c_size_8abf5 G (z.2.2.2 (bL (lb true))) h = some (nI v, h) := by rw [← A.1]; exact s_szv R (B.1.t true)
    refine ⟨h, y, ?_, R, B, A⟩
    show f_X6_advise_b94_body G (f_X6_advise_b94 G fuel) (z.2.2.2 bV) (nI q) (nI s) b (nI v) h = _
    simp only [f_X6_advise_b94_body, u1, rd_s, u2, u3, u4, bd_s, if_pos (Int32.le_refl _), adK]
  | succ d ih =>
    intro v fuel s b y h hv hf hs A B R
    obtain ⟨fuel, rfl⟩ : ∃ q, fuel = q + 1 := ⟨fuel - 1, by omega⟩
    have hvn : v < n := by omega
    have u1 : gR 7 h (z.2.2.2 bV) 5 = some (z.2.2.2 (btn true)) := by rw [← A.1]; exact g_V_5 R
    have u1' : gR 7 h (z.2.2.2 bV) 4 = some (z.2.2.2 (btn false)) := by rw [← A.1]; exact g_V_4 R
    have u2 : gR 4 h (z.2.2.2 (btn true)) 0 = some (z.2.2.2 (bL (lb true))) := by rw [← A.1]; exact g_tn_0 R
    have u3 : isC 0 h (z.2.2.2 (bL (lb true))) = some () := by rw [← A.1]; exact c_oL R (lb_lt _)
    have u3' : isC 4 h (z.2.2.2 (btn true)) = some () := by rw [← A.1]; exact c_otn R
    have u4 : f_Jx4a65c_size_8abf5 G (z.2.2.2 (bL (lb true))) h = some (nI n, h) := by rw [← A.1]; exact s_szv R (B.1.t true)
    obtain ⟨h1, e1, R1⟩ := s_copyC H.1 A R
    have hA := cA_HB H
    have w1 : gR 7 h1 (z.2.2.2 bV) 5 = some (z.2.2.2 (btn true)) := by have t := g_V_5 R1; exact t
    have w2 : gR 4 h1 (z.2.2.2 (btn true)) 0 = some (z.2.2.2 (bL (lb true))) := by have t := g_tn_0 R1 (b := true); exact t
    have w3 : isC 0 h1 (z.2.2.2 (bL (lb true))) = some () := by have t := c_oL R1 (lb_lt true); exact t
    have w4 : f_Jx4a65c_get_915e3 G (z.2.2.2 (bL (lb true))) (nI v) h1 = some (z.2.2.2 (bvn true v), h1) := by have t := s_getv R1 (hA.1.t true) hvn; exact t
    have w5 : isC 5 h1 (z.2.2.2 (bvn true v)) = some () := by have t := c_ovn R1 ((hA.1.t true).v hvn); exact t
    obtain ⟨h2, e2, R2⟩ := s_takeOil R1 (b := true) (j := v) ((hA.1.t true).v hvn)
    have e2 : f_X4_takeOil G (z.2.2.2 (bvn true v)) h1 = some ((), h2) := e2
    have R2 : Rp G (cV n v z) h2 := R2
    have hV := cV_HB (v := v) H
    have hqV : q < (cV n v z).2.1 1 := hq
    have x2 : gR 7 h2 (z.2.2.2 bV) 2 = some (z.2.2.2 (bL 1)) := by have t := g_V_2 R2; exact t
    have x3 : isC 0 h2 (z.2.2.2 (bL 1)) = some () := by have t := c_oL R2 (k := 1) (by decide); exact t
    have x4 : f_Jx4a65c_get_915e3 G (z.2.2.2 (bL 1)) (nI q) h2 = some (z.2.2.2 (bmo q), h2) := by have t := s_getm R2 hV.1 hqV; exact t
    have x5 : isC 3 h2 (z.2.2.2 (bmo q)) = some () := by have t := c_omo R2 hqV; exact t
    have x6 : isC 7 h2 (z.2.2.2 bV) = some () := by have t := c_oV R2; exact t
    obtain ⟨h3, y3, e3, R3, B3, A3⟩ := s_hours R2 hV hqV (H0 := H0) (N := s) hH hs
    have e3 : f_X6_hoursUntilItPasses G (z.2.2.2 bV) (z.2.2.2 (bmo q)) (nI s) h2 = some (nI (hwP q n H0 s 0 (cV n v z)), h3) := e3
    have A3 : AH true z y3 := (cV_AH n v z).tr A3
    have hT : hwP q n H0 s 0 (cV n v z) ≤ 0 + s := hwP_le q n H0 s 0 _
    by_cases c : s ≤ hwP q n H0 s 0 (cV n v z)
    · obtain ⟨h', y', e', R', B', A'⟩ := ih (v + 1) fuel s b y3 h3 (by omega) (by omega) hs A3 B3 R3
      refine ⟨h', y', ?_, R', B', A'⟩
      show f_X6_advise_b94_body G (f_X6_advise_b94 G fuel) (z.2.2.2 bV) (nI q) (nI s) b (nI v) h = _
      simp only [f_X6_advise_b94_body, u1, u1', rd_s, u2, u3, u3', u4, bd_s, if_neg (nI_ge hvn (show n < 2 ^ 31 by omega)), e1, w1, w2, w3, w4, w5, e2, x2, x3, x4, x5, x6, e3, if_pos (show nI s ≤ nI (hwP q n H0 s 0 (cV n v z)) from nI_le c (by omega)), f_X6_advise_b169, nI_1, e', adK, if_pos c]
    · obtain ⟨h', y', e', R', B', A'⟩ := ih (v + 1) fuel (hwP q n H0 s 0 (cV n v z)) (nI v) y3 h3 (by omega) (by omega) (by omega) A3 B3 R3
      refine ⟨h', y', ?_, R', B', A'⟩
      show f_X6_advise_b94_body G (f_X6_advise_b94 G fuel) (z.2.2.2 bV) (nI q) (nI s) b (nI v) h = _
      simp only [f_X6_advise_b94_body, u1, u1', rd_s, u2, u3, u3', u4, bd_s, if_neg (nI_ge hvn (show n < 2 ^ 31 by omega)), e1, w1, w2, w3, w4, w5, e2, x2, x3, x4, x5, x6, e3, if_neg (show ¬ nI s ≤ nI (hwP q n H0 s 0 (cV n v z)) from nI_ge (by omega) (by omega)), f_X6_advise_b169, nI_1, e', adK, if_neg c]
theorem nI_n1 {k : Nat} (hk : k < 2 ^ 31) : ¬ nI k = (-1 : Int32) := fun e => by
  have := congrArg Int32.toInt e
  rw [nI_toInt (by omega), show (-1 : Int32).toInt = -1 by decide] at this
  omega
theorem sl_madvise {G : GE} {n W H0 ne q N : Nat} {z : Zs} (S : SimH n W H0 ne z false z false) (g7 : ∀ i, i < 24 → z.1 11 2 i = 0 ∨ z.1 11 2 i = 1) (hN : H0 + N ≤ 2000) (hq : q < z.2.1 1) : ∀ d v fuel s b m h, v + d = n → d < fuel → s ≤ N → EQV z m → Rp G m h →
    ∃ h' m', f_X8_advise_b70 G fuel (m.2.2.2 bX) (nI q) (nI N) b (if s < N then nI (H0 + s) else -1) (nI v) h = some (adK q n H0 z d v s b, h') ∧ Rp G m' h' ∧ m'.2 = m.2 ∧ ∀ g, g < 20 → m'.1 g = m.1 g := by
  have h16 := (S.2.1.1.t false).2.2.2
  have hn : z.1 10 0 5 = nI n := S.2.2.2.1.1
  intro d
  induction d with
  | zero =>
    intro v fuel s b m h hv hf hs E R
    obtain ⟨fuel, rfl⟩ : ∃ q, fuel = q + 1 := ⟨fuel - 1, by omega⟩
    obtain rfl : v = n := by omega
    have y5 : gI 8 h (m.2.2.2 (bst false)) 5 = some (nI v) := by rw [← hn, ← E.2 10 (by decide) (by decide) (by decide)]; exact g_st_5 R
    refine ⟨h, m, ?_, R, rfl, fun _ _ => rfl⟩
    show f_X8_advise_b70_body G (f_X8_advise_b70 G fuel) (m.2.2.2 bX) (nI q) (nI N) b _ (nI v) h = _
    simp only [f_X8_advise_b70_body, g_X_1 R, rd_s, y5, if_pos (Int32.le_refl _), adK]
  | succ d ih =>
    intro v fuel s b m h hv hf hs E R
    obtain ⟨fuel, rfl⟩ : ∃ q, fuel = q + 1 := ⟨fuel - 1, by omega⟩
    have hvn : v < n := by omega
    have y5 : gI 8 h (m.2.2.2 (bst false)) 5 = some (nI n) := by rw [← hn, ← E.2 10 (by decide) (by decide) (by decide)]; exact g_st_5 R
    obtain ⟨h1, m1, e1, R1, p1, q1⟩ := s_mfirst1 (n := n) (W := W) (H0 := H0) (ne := ne) (N := N) (q := q) (v := v) R S E g7 hN hq hvn
    have E1 : EQV z m1 := E.tr ⟨by rw [p1], fun g hg _ _ => q1 g hg⟩
    have hmin := hwP_min q n H0 s N 0 (cV n v z) hs
    rw [Nat.zero_add] at hmin
    generalize hT : hwP q n H0 N 0 (cV n v z) = T at e1 hmin
    have run : ∀ s' b', f_X8_advise_b70 G fuel (m.2.2.2 bX) (nI q) (nI N) b' (if s' < N then nI (H0 + s') else -1) (nI (v + 1)) h1 = f_X8_advise_b70_body G (f_X8_advise_b70 G fuel) (m.2.2.2 bX) (nI q) (nI N) b (if s < N then nI (H0 + s) else -1) (nI v) h → s' ≤ N → adK q n H0 z (d + 1) v s b = adK q n H0 z d (v + 1) s' b' →
        ∃ h' m', f_X8_advise_b70 G (fuel + 1) (m.2.2.2 bX) (nI q) (nI N) b (if s < N then nI (H0 + s) else -1) (nI v) h = some (adK q n H0 z (d + 1) v s b, h') ∧ Rp G m' h' ∧ m'.2 = m.2 ∧ ∀ g, g < 20 → m'.1 g = m.1 g := by
      intro s' b' hb hs' hk
      obtain ⟨h', m', e', R', p', q'⟩ := ih (v + 1) fuel s' b' m1 h1 (by omega) (by omega) hs' E1 R1
      rw [p1, hb] at e'
      exact ⟨h', m', by rw [hk]; exact e', R', p'.trans p1, fun g hg => (q' g hg).trans (q1 g hg)⟩
    have hl := nI_ge hvn (show n < 2 ^ 31 by omega)
    by_cases cT : T < N
    · by_cases cs : T < s
      · refine run T (nI v) ?_ (by omega) ?_
        · by_cases c : s < N
          · simp only [f_X8_advise_b70_body, g_X_1 R, rd_s, y5, if_neg hl, c_oX R, e1, bd_s, if_pos cT, if_neg (nI_n1 (show H0 + T < 2 ^ 31 by omega)), if_pos c, if_neg (nI_n1 (show H0 + s < 2 ^ 31 by omega)), if_pos (show nI (H0 + T) < nI (H0 + s) from nI_lt (by omega) (by omega)), f_X8_advise_b114, f_X8_advise_b121, nI_1]
          · simp only [f_X8_advise_b70_body, g_X_1 R, rd_s, y5, if_neg hl, c_oX R, e1, bd_s, if_pos cT, if_neg (nI_n1 (show H0 + T < 2 ^ 31 by omega)), if_neg c, if_true, f_X8_advise_b114, f_X8_advise_b121, nI_1]
        · have ht : hwP q n H0 s 0 (cV n v z) = T := by omega
          rw [adK, ht, if_neg (by omega)]
      · have c : s < N := by omega
        refine run s b ?_ hs ?_
        · simp only [f_X8_advise_b70_body, g_X_1 R, rd_s, y5, if_neg hl, c_oX R, e1, bd_s, if_pos cT, if_neg (nI_n1 (show H0 + T < 2 ^ 31 by omega)), if_pos c, if_neg (nI_n1 (show H0 + s < 2 ^ 31 by omega)), if_neg (show ¬ nI (H0 + T) < nI (H0 + s) from nI_nlt (by omega) (by omega)), f_X8_advise_b121, nI_1]
        · have ht : hwP q n H0 s 0 (cV n v z) = s := by omega
          rw [adK, ht, if_pos (Nat.le_refl _)]
    · refine run s b ?_ hs ?_
      · simp only [f_X8_advise_b70_body, g_X_1 R, rd_s, y5, if_neg hl, c_oX R, e1, bd_s, if_neg cT, if_true, f_X8_advise_b121, nI_1]
      · have ht : hwP q n H0 s 0 (cV n v z) = s := by omega
        rw [adK, ht, if_pos (Nat.le_refl _)]
theorem ls_advise {G : GE} {x y o : Nat} : LS_advise G x y o (IV G x y o) := by
  rintro h ⟨z, R, ⟨rfl, rfl, rfl⟩, Gd⟩ a0 a1
  have Gd' := Gd
  obtain ⟨n, W, H0, ne, S, g1, g2, g3, g4, g5, g6, g7, g8, g9⟩ := Gd
  have H := S.2.1
  have C := H.1
  have M := S.2.2.2.1
  have h16 := (C.t false).2.2.2
  have h12 := C.2.2.2.2.1
  have hn : z.1 10 0 5 = nI n := M.1
  have hw := H.wi H0
  have h31 : H0 < 2 ^ 31 := by omega
  have hH : z.1 10 0 0 = nI H0 := M.2.2.2.2.2.1
  have hy0 : ∀ {w : Int32} {h3 : PH}, Rp G (uI z 0 1 0 w) h3 → gI 8 h3 (z.2.2.2 (bst false)) 0 = some (nI H0) := fun R3 => by rw [← hH]; have t := g_st_0 R3 (b := false); exact t
  by_cases c0 : isB (z.2.1 1) a0
  rotate_left
  · refine both_no R Gd' (E := "java/lang/IndexOutOfBoundsException") 1 ?_ (by decide) (by decide) (fun h2 h3 h4 e3 R3 i9 e4 => ?_)
    · simp only [f_X6_advise, c_oV R, rd_s, bd_s, if_neg ne10, (M_out R R C g4 c0).1, if_true]
    · obtain ⟨-, x1, x2, i8, -⟩ : NF z h3 := R3.nf
      simp only [f_X8_advise, e3, rd_s, i9, bd_s, if_neg ne10, x1, (show f_X8_isMotion G (z.2.2.2 bX) a0 h3 = some (0, h3) from (M_out (z := z) (z' := uI z 0 1 0 0) R R3 C g4 c0).2), if_true, e4]
  have c0' := c0
  obtain ⟨v, hv, rfl⟩ := c0
  have hq1 : ∀ {h3 : PH}, Rp G (uI z 0 1 0 0) h3 → f_X8_isMotion G (z.2.2.2 bX) (nI v) h3 = some (1, h3) := fun R3 => (M_in (z := z) (z' := uI z 0 1 0 0) R R3 C g4 c0').2
  by_cases c1 : isW 1 50 a1
  rotate_left
  · refine both_no R Gd' (E := "java/lang/IllegalArgumentException") 2 ?_ (by decide) (by decide) (fun h2 h3 h4 e3 R3 i9 e4 => ?_)
    · simp only [f_X6_advise, c_oV R, rd_s, bd_s, if_neg ne10, (M_in R R C g4 c0').1, (s_wO c1).1, if_true]
    · obtain ⟨-, x1, x2, i8, -⟩ : NF z h3 := R3.nf
      simp only [f_X8_advise, e3, rd_s, i9, bd_s, if_neg ne10, x1, hq1 R3, (s_wO c1).2, if_true, e4]
  obtain ⟨N, hN1, hN2, rfl⟩ := isW_nat (a := 1) (b := 50) (by decide) (by decide) c1
  by_cases c2 : H0 + N ≤ 2000
  rotate_left
  · have c2' : ¬ nI (H0 + N) ≤ (2000 : Int32) := nI_ge (b := H0 + N) (a := 2000) (by omega) (by omega)
    refine both_no R Gd' (E := "java/lang/IllegalStateException") 3 ?_ (by decide) (by decide) (fun h2 h3 h4 e3 R3 i9 e4 => ?_)
    · simp only [f_X6_advise, c_oV R, rd_s, bd_s, if_neg ne10, (M_in R R C g4 c0').1, (s_wI c1).1, s_V6 R g1, nI_add, if_neg c2', if_true]
    · obtain ⟨-, x1, x2, i8, -⟩ : NF z h3 := R3.nf
      simp only [f_X8_advise, e3, rd_s, i9, bd_s, if_neg ne10, x1, hq1 R3, (s_wI c1).2, hy0 R3, nI_add, if_neg c2', if_true, e4]
  have c2' : nI (H0 + N) ≤ (2000 : Int32) := nI_le (a := H0 + N) (b := 2000) c2 (by decide)
  have hCA0 : (cA n z).1 0 0 0 = nI H0 := g1
  obtain ⟨h1, e1, R1⟩ := s_copyC C (AH.rf true z) R
  have hq' : v < (cA n z).2.1 1 := hv
  have hHB := cA_HB H
  obtain ⟨h2, zf, e2, R2, B2, A2⟩ := s_hours R1 hHB hq' hCA0 c2
  have e2 : f_X6_hoursUntilItPasses G (z.2.2.2 bV) (z.2.2.2 (bmo v)) (nI N) h1 = some (nI (hwP v n H0 N 0 (cA n z)), h2) := e2
  have A2 : AH true z zf := (cA_AH n z).tr A2
  have hz2 : zf.2 = z.2 := A2.1
  have hT : hwP v n H0 N 0 (cA n z) ≤ 0 + N := hwP_le v n H0 N 0 _
  have u2 : gR 7 h1 (z.2.2.2 bV) 2 = some (z.2.2.2 (bL 1)) := by have t := g_V_2 R1; exact t
  have u3 : isC 0 h1 (z.2.2.2 (bL 1)) = some () := by have t := c_oL R1 (k := 1) (by decide); exact t
  have u4 : f_Jx4a65c_get_915e3 G (z.2.2.2 (bL 1)) (nI v) h1 = some (z.2.2.2 (bmo v), h1) := by have t := s_getm R1 hHB.1 hq'; exact t
  have u5 : isC 3 h1 (z.2.2.2 (bmo v)) = some () := by have t := c_omo R1 hq'; exact t
  have u6 : isC 7 h1 (z.2.2.2 bV) = some () := by have t := c_oV R1; exact t
  obtain ⟨h3, yf, e3, R3, B3, A3⟩ := sl_advise (G := G) H hv g1 n 0 LF (hwP v n H0 N 0 (cA n z)) (-1) zf h2 (by omega) (by unfold LF; omega) (by omega) A2 B2 R2
  have e3 : f_X6_advise_b94 G LF (z.2.2.2 bV) (nI v) (nI (hwP v n H0 N 0 (cA n z))) (-1 : Int32) (0 : Int32) h2 = _ := e3
  have hcls : f_X6_advise G (z.2.2.2 bV) (nI v) (nI N) h = some (.inl (adK v n H0 z n 0 (hwP v n H0 N 0 (cA n z)) (-1)), h3) := by
    simp only [f_X6_advise, c_oV R, rd_s, (M_in R R C g4 c0').1, bd_s, if_neg ne10, (s_wI c1).1, s_V6 R g1, nI_add, if_pos c2', g_V_5 R, g_V_4 R, c_otn R, e1, u2, u3, u4, u5, u6, e2, e3]
  have hy2 : yf.2 = z.2 := A3.1
  refine both_do R (h1 := h3) (z1 := yf) hcls R3 ⟨by rw [hy2], by rw [hy2], by rw [hy2]⟩ (fun h2 h3 e3 R3 => ?_)
  generalize hK : adK v n H0 z n 0 (hwP v n H0 N 0 (cA n z)) (-1) = K at R3
  have E : EQV z (uI (uO yf 0 K.toInt64) 0 1 0 0) := (EQV.ah A3).tr (EQV.o0 yf _ 0)
  obtain ⟨i9, x1, x2, i8, i8'⟩ : NF yf h3 := R3.n0
  have hn' : (uI (uO yf 0 K.toInt64) 0 1 0 0).1 10 0 7 = nI (z.2.1 1) := by rw [E.2 10 (by decide) (by decide) (by decide)]; exact g4
  have q1 : f_X8_isMotion G (yf.2.2.2 bX) (nI v) h3 = some (1, h3) := (M_in (z := z) (z' := uI (uO yf 0 K.toInt64) 0 1 0 0) R R3 C hn' c0').2
  have y0 : gI 8 h3 (yf.2.2.2 (bst false)) 0 = some (nI H0) := by rw [← hH, ← E.2 10 (by decide) (by decide) (by decide)]; have t := g_st_0 R3 (b := false); exact t
  obtain ⟨h4, m4, e4, R4, p4, q4⟩ := s_mfirst0 (n := n) (W := W) (H0 := H0) (ne := ne) (N := N) (q := v) R3 S E g7 c2 hv
  have e4 : f_X8_first G (yf.2.2.2 bX) (nI v) (nI N) (-1 : Int32) h3 = some (if hwP v n H0 N 0 (cA n z) < N then nI (H0 + hwP v n H0 N 0 (cA n z)) else -1, h4) := e4
  have E4 : EQV z m4 := E.tr ⟨by rw [p4], fun g hg _ _ => q4 g hg⟩
  obtain ⟨h5, m5, e5, R5, p5, q5⟩ := sl_madvise (G := G) (ne := ne) S g7 c2 hv n 0 LF (hwP v n H0 N 0 (cA n z)) (-1) m4 h4 (by omega) (by unfold LF; omega) (by omega) E4 R4
  rw [p4, hK] at e5
  have e5 : f_X8_advise_b70 G LF (yf.2.2.2 bX) (nI v) (nI N) (-1 : Int32) (if hwP v n H0 N 0 (cA n z) < N then nI (H0 + hwP v n H0 N 0 (cA n z)) else -1) (0 : Int32) h4 = some (K, h5) := e5
  obtain ⟨f1, f2, f3, f4⟩ := fin_ahead Gd' A3 (fun j hj => B3.2.2.2.2 j (by rw [← g9]; exact hj)) (m := m5) (r := K.toInt64) (p5.trans p4) (fun g hg => (q5 g hg).trans (q4 g hg))
  refine ⟨h5, m5, ?_, R5, f1, f2, f3, f4⟩
  rw [← hy2]
  simp only [f_X8_advise, e3, rd_s, i9, q1, bd_s, if_neg ne10, (s_wI c1).2, x1, y0, nI_add, if_pos c2', e4, e5]
