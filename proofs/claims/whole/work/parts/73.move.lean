/-! ===== move ===== -/
theorem init_X2 {G : GE} {h : PH} (i a b c d : Int32) : f_X2_init G h.1 i a b c d (FR h (.inr (3, [.int 0, .int 0, .int 0, .int 0, .int 0, .int 0, .int 0]))) = some ((), FR h (.inr (3, [.int i, .int a, .int b, .int c, .int d, .int 0, .int 0]))) := by
  have e0 : sF 3 (FR h (.inr (3, [.int 0, .int 0, .int 0, .int 0, .int 0, .int 0, .int 0]))) h.1 0 (.int i) = some (FR h (.inr (3, [.int i, .int 0, .int 0, .int 0, .int 0, .int 0, .int 0]))) := fr_sF 0 _ (show 0 < 7 by decide)
  have e1 : sF 3 (FR h (.inr (3, [.int i, .int 0, .int 0, .int 0, .int 0, .int 0, .int 0]))) h.1 1 (.int a) = some (FR h (.inr (3, [.int i, .int a, .int 0, .int 0, .int 0, .int 0, .int 0]))) := fr_sF 1 _ (show 1 < 7 by decide)
  have e2 : sF 3 (FR h (.inr (3, [.int i, .int a, .int 0, .int 0, .int 0, .int 0, .int 0]))) h.1 2 (.int b) = some (FR h (.inr (3, [.int i, .int a, .int b, .int 0, .int 0, .int 0, .int 0]))) := fr_sF 2 _ (show 2 < 7 by decide)
  have e3 : sF 3 (FR h (.inr (3, [.int i, .int a, .int b, .int 0, .int 0, .int 0, .int 0]))) h.1 3 (.int c) = some (FR h (.inr (3, [.int i, .int a, .int b, .int c, .int 0, .int 0, .int 0]))) := fr_sF 3 _ (show 3 < 7 by decide)
  have e4 : sF 3 (FR h (.inr (3, [.int i, .int a, .int b, .int c, .int 0, .int 0, .int 0]))) h.1 4 (.int d) = some (FR h (.inr (3, [.int i, .int a, .int b, .int c, .int d, .int 0, .int 0]))) := fr_sF 4 _ (show 4 < 7 by decide)
  simp only [f_X2_init, e0, rd_s, e1, e2, e3, e4]
theorem Rp.nM {G : GE} {z : Zs} {h : PH} (R : Rp G z h) {i : Nat} (hi : z.2.1 51 ≤ i) (hi2 : i ≤ z.2.1 1) (hA : ∀ a, a < z.2.1 2 → (z.1 3 a 0).toNatClampNeg < i) (r : Nat → Int32) : Rp G (nwE z 2 1 i (bmo i) r h.1) (FR h (.inr (3, [.int (nI i), .int (r 0), .int (r 1), .int (r 2), .int (r 3), .int (r 4), .int (r 5)]))) := by
  refine R.fr (bmo i) _ ?_ (fun k d hk hd => ?_) nwE_a (fun k hk => nwE_p hk) (nwE_W R.2 (by decide))
  · rw [e_mo (by rw [nwE_c]; omega), nwE_s]
  · have hb := nwE_base (G := G) (z := z) (g := 2) (c := 1) (i := i) (l := bmo i) (r := r) (q := h.1) (by decide) (by decide) rfl (fun q j hq hj e => by
      match q, hq with
      | 0, _ => cases e
      | 1, _ =>
        cases e
        exact absurd hj (Nat.not_lt.mpr hi)
      | 2, _ => cases e
      | 3, _ => cases e
      | 4, _ => cases e)
    rcases k with u|u|u|b|b|q|q|j|j|j|j|j|⟨b, j⟩|⟨b, q⟩
    · rw [hb _ rfl] at hd; exact hd
    · rw [hb _ rfl] at hd; exact hd
    · rw [hb _ rfl] at hd; exact hd
    · rw [hb _ rfl] at hd; exact hd
    · rw [hb _ rfl] at hd; exact hd
    · rw [hb _ rfl] at hd; exact hd
    · rw [hb _ rfl] at hd; exact hd
    · exact hd
    · have hj : ¬ j = i := fun e => hk (by rw [e])
      by_cases hl : j < i
      · rw [e_mo (by rw [nwE_c]; omega), nwE_r (fun e => hj e.2)] at hd
        rw [e_mo (by omega)]
        exact hd
      · simp only [ct, nwE_c, if_neg (show ¬ j < i + 1 by omega)] at hd
        cases hd
    · by_cases hl : j < z.2.1 2
      · have hne : ¬ bmo (z.1 3 j 0).toNatClampNeg = bmo i := fun e => by
          have h1 := hA j hl
          have h2 : (z.1 3 j 0).toNatClampNeg = i := by injection e with e; injection e with e; injection e with e; injection e with e; injection e with e; injection e with e; injection e with e; injection e with e; injection e
          omega
        rw [e_ae (show j < (nwE z 2 1 i (bmo i) r h.1).2.1 2 from hl), show (nwE z 2 1 i (bmo i) r h.1).1 3 = z.1 3 from rfl, nwE_p hne] at hd
        rw [e_ae hl]
        exact hd
      · simp only [ct] at hd
        rw [if_neg (show ¬ j < (nwE z 2 1 i (bmo i) r h.1).2.1 2 from hl)] at hd
        cases hd
    · simp only [ct, nwE_p (show ¬ bho _ = bmo i from fun e => by cases e)] at hd
      exact hd
    · exact hd
    · simp only [ct, nwE_p (show ¬ bms _ = bmo i from fun e => by cases e)] at hd
      cases b <;> exact hd
    · rw [hb _ rfl] at hd; exact hd
theorem fl_own {d : Nat} (hd : 0 < d) (f : Nat → Int32) (g : Nat → Nat → Int32) (i : Nat) : va_cpy f (fl d g) 0 (d * i) d = fl d (u1 g i f) := by
  funext j
  unfold va_cpy fl u1
  by_cases c : d * i ≤ j ∧ j < d * i + d
  · obtain ⟨k, rfl⟩ : ∃ k, j = d * i + k := ⟨j - d * i, by omega⟩
    have hk : k < d := by omega
    have h1 : (d * i + k) / d = i := by rw [Nat.mul_add_div (by omega), Nat.div_eq_of_lt hk, Nat.add_zero]
    have h2 : (d * i + k) % d = k := by rw [Nat.mul_add_mod, Nat.mod_eq_of_lt hk]
    rw [if_pos c, h1, h2, if_pos rfl, Nat.zero_add, Nat.add_sub_cancel_left]
  · rw [if_neg c]
    by_cases e : j / d = i
    · exfalso
      have h1 := Nat.div_add_mod j d
      have h2 := Nat.mod_lt j hd
      rw [e] at h1
      omega
    · rw [if_neg e]
theorem cpI_own {h : PH} {d n1 dst p : Nat} {f g : Nat → Int32} (hd : (Jk h d f).2 dst = some (.inl (0, n1, .inl g))) (hlt : dst < h.1) (hp : p + d ≤ n1) (hn : n1 < 2 ^ 31) : cpI 0 (Jk h d f) h.1 (0 : Int32) dst (nI p) (nI d) = some ((Jk h d f).1, va_up (Jk h d f).2 dst (some (.inl (0, n1, .inl (va_cpy f g 0 p d))))) := by
  have hs : (Jk h d f).2 h.1 = some (.inl (0, d, .inl f)) := by simp [Jk, va_up]
  have h0 : (0 : Int32).toNatClampNeg = 0 := by decide
  have hc : (nI d).toNatClampNeg = d := nI_clamp (by omega)
  have hq : (nI p).toNatClampNeg = p := nI_clamp (by omega)
  have hne : ¬ h.1 = dst := by omega
  unfold cpI
  simp only [hs, hd, h0, hc, hq]
  simp [nI_pos (show d < 2 ^ 31 by omega), nI_pos (show p < 2 ^ 31 by omega), hne, hp]
theorem s_own4 {G : GE} {z : Zs} {h : PH} (R : Rp G z h) (b : Bool) {i : Nat} (hi : i < 12) (f : Nat → Int32) : ∃ h', cpI 0 (Jk h 6 f) h.1 (0 : Int32) (z.2.2.2 (bsa b 4)) (nI (6 * i)) (nI 6) = some h' ∧ Rp G (uR z (gm b 3) i f) h' := by
  have Rj := R.jk 6 f
  refine ⟨_, cpI_own (Rj.at e_s4) (R.1.2.2 _ _ e_s4).2.1 (show 6 * i + 6 ≤ 72 by omega) (by decide), Rj.wR (l := bsa b 4) f e_s4 ?_ (fun l' hl => d_s4 b i hl)⟩
  rw [e_s4, fl_own (by decide)]
  simp only [uR, uG_s]
theorem s_own3 {G : GE} {z : Zs} {h : PH} (R : Rp G z h) (b : Bool) {i : Nat} (hi : i < 16) (f : Nat → Int32) : ∃ h', cpI 0 (Jk h 10 f) h.1 (0 : Int32) (z.2.2.2 (bsa b 3)) (nI (10 * i)) (nI 10) = some h' ∧ Rp G (uR z (gm b 2) i f) h' := by
  have Rj := R.jk 10 f
  refine ⟨_, cpI_own (Rj.at e_s3) (R.1.2.2 _ _ e_s3).2.1 (show 10 * i + 10 ≤ 160 by omega) (by decide), Rj.wR (l := bsa b 3) f e_s3 ?_ (fun l' hl => d_s3 b i hl)⟩
  rw [e_s3, fl_own (by decide)]
  simp only [uR, uG_s]
def rM (a b c d : Int32) : Nat → Int32 := upd (upd (upd (upd (upd (upd (fun _ => 0) 0 a) 1 b) 2 c) 3 d) 4 0) 5 0
theorem s_mmove {G : GE} {z : Zs} {h : PH} (R : Rp G z h) {a b c d : Int32} (ha : isB 16 a) (hb : isW 0 7 b) (hc : isW 0 99 c) (hd : isW 0 3 d) {m : Nat} (hM : z.1 10 0 7 = nI m) (h12 : m < 12) : ∃ h', f_X8_move G (z.2.2.2 bX) a b c d h = some (nI m, h') ∧ Rp G (uI (uR (uI z 0 1 0 0) 13 m (rM a b c d)) 10 0 7 (nI (m + 1))) h' := by
  obtain ⟨h1, e1, R1⟩ := w_X_0 R 0
  obtain ⟨i9, x1, x2, i8, -⟩ := R1.nf
  have y1 : gI 8 h1 (z.2.2.2 (bst false)) 7 = some (nI m) := by rw [← hM]; have t := g_st_7 R1 (b := false); exact t
  have gX : ∀ f, gR 9 (Jk h1 6 f) (z.2.2.2 bX) 1 = some (z.2.2.2 (bst false)) := fun f => by have t := g_X_1 (R1.jk 6 f); exact t
  have s8 : ∀ f, gR 8 (Jk h1 6 f) (z.2.2.2 (bst false)) 8 = some (z.2.2.2 (bsa false 4)) := fun f => by have t := g_st_8 (R1.jk 6 f) (b := false); exact t
  have s7 : ∀ f, gI 8 (Jk h1 6 f) (z.2.2.2 (bst false)) 7 = some (nI m) := fun f => by rw [← hM]; have t := g_st_7 (R1.jk 6 f) (b := false); exact t
  have j0 : ∀ f x, aIs (Jk h1 6 f) h1.1 (0 : Int32) x = some (Jk h1 6 (upd f 0 x)) := fun f x => jk_set (i := 0) x (by decide) (by decide)
  have j1 : ∀ f x, aIs (Jk h1 6 f) h1.1 (1 : Int32) x = some (Jk h1 6 (upd f 1 x)) := fun f x => jk_set (i := 1) x (by decide) (by decide)
  have j2 : ∀ f x, aIs (Jk h1 6 f) h1.1 (2 : Int32) x = some (Jk h1 6 (upd f 2 x)) := fun f x => jk_set (i := 2) x (by decide) (by decide)
  have j3 : ∀ f x, aIs (Jk h1 6 f) h1.1 (3 : Int32) x = some (Jk h1 6 (upd f 3 x)) := fun f x => jk_set (i := 3) x (by decide) (by decide)
  have j4 : ∀ f x, aIs (Jk h1 6 f) h1.1 (4 : Int32) x = some (Jk h1 6 (upd f 4 x)) := fun f x => jk_set (i := 4) x (by decide) (by decide)
  have j5 : ∀ f x, aIs (Jk h1 6 f) h1.1 (5 : Int32) x = some (Jk h1 6 (upd f 5 x)) := fun f x => jk_set (i := 5) x (by decide) (by decide)
  obtain ⟨h2, e2, R2⟩ := s_own4 R1 false (i := m) h12 (rM a b c d)
  have e2 : cpI 0 (Jk h1 6 (upd (upd (upd (upd (upd (upd (fun _ => 0) 0 a) 1 b) 2 c) 3 d) 4 0) 5 0)) h1.1 (0 : Int32) (z.2.2.2 (bsa false 4)) ((6 : Int32) * nI m) (6 : Int32) = some h2 := by rw [show (6 : Int32) * nI m = nI (6 * m) from pk_mul 6 m]; exact e2
  have x3 : gR 9 h2 (z.2.2.2 bX) 1 = some (z.2.2.2 (bst false)) := by have t := g_X_1 R2; exact t
  have y3 : gI 8 h2 (z.2.2.2 (bst false)) 7 = some (nI m) := by rw [← hM]; have t := g_st_7 R2 (b := false); exact t
  obtain ⟨h3, e3, R3⟩ := w_st_7 R2 (b := false) (nI (m + 1))
  have e3 : sF 8 h2 (z.2.2.2 (bst false)) 7 (.int (nI (m + 1))) = some h3 := e3
  have x4 : gR 9 h3 (z.2.2.2 bX) 1 = some (z.2.2.2 (bst false)) := by have t := g_X_1 R3; exact t
  have y4 : gI 8 h3 (z.2.2.2 (bst false)) 7 = some (nI (m + 1)) := by have t := g_st_7 R3 (b := false); exact t
  have n12 : ¬ nI m = (12 : Int32) := fun e => by
    have := congrArg Int32.toInt e
    rw [nI_toInt (by omega), show (12 : Int32) = nI 12 from rfl, nI_toInt (by omega)] at this
    omega
  have hs : nI (m + 1) - (1 : Int32) = nI m := by
    rw [← nI_1 m, Int32.add_sub_cancel]
  refine ⟨h3, ?_, R3⟩
  simp only [f_X8_move, e1, rd_s, (s_dirI ha).2, bd_s, if_neg ne10, (s_wI hb).2, (s_wI hc).2, (s_wI hd).2, x1, y1, if_neg n12, jk_nw, j0, j1, j2, j3, j4, j5, gX, s8, s7, e2, x3, y3, nI_1, e3, x4, y4, hs]
theorem Good.motion {z z' : Zs} {m : Nat} {r : Nat → Int32} (g : Good z) (hm : m = z.2.1 1) (h12 : m < 12)
    (hg : ∀ q, ¬ q = 0 → ¬ q = 2 → ¬ q = 8 → ¬ q = 10 → ¬ q = 13 → z'.1 q = z.1 q) (h0 : ∀ k, z'.1 0 0 k = z.1 0 0 k)
    (h10 : ∀ k, ¬ k = 7 → z'.1 10 0 k = z.1 10 0 k) (hW : z'.1 10 0 7 = nI (m + 1)) (hc : ∀ c, ¬ c = 1 → ¬ c = 51 → ¬ c = 61 → z'.2.1 c = z.2.1 c) (hc0 : z'.2.1 1 = m + 1) (hc5 : z'.2.1 51 = m + 1)
    (w1 : z'.1 2 = u1 (z.1 2) m r) (w11 : z'.1 13 = u1 (z.1 13) m r) (hd : isB 16 (r 0)) : Good z' := by
  obtain ⟨n, W, H0, ne, S, g1, g2, g3, g4, g5, g6, g7, g8, g9⟩ := g
  obtain ⟨⟨s1, s2, s3, s4, s5, s6⟩, ⟨C, hd0, hw0, ha0, hv0⟩, e3, M, e5, e6, e7, e8⟩ := S
  have k1 := hg 1 (by decide) (by decide) (by decide) (by decide) (by decide)
  have k3 := hg 3 (by decide) (by decide) (by decide) (by decide) (by decide)
  have k4 := hg 4 (by decide) (by decide) (by decide) (by decide) (by decide)
  have k5 := hg 5 (by decide) (by decide) (by decide) (by decide) (by decide)
  have k6 := hg 6 (by decide) (by decide) (by decide) (by decide) (by decide)
  have k7 := hg 7 (by decide) (by decide) (by decide) (by decide) (by decide)
  have k11 := hg 11 (by decide) (by decide) (by decide) (by decide) (by decide)
  have k12 := hg 12 (by decide) (by decide) (by decide) (by decide) (by decide)
  have k14 := hg 14 (by decide) (by decide) (by decide) (by decide) (by decide)
  have c0 := hc 0 (by decide) (by decide) (by decide)
  have c2 := hc 2 (by decide) (by decide) (by decide)
  have c3 := hc 3 (by decide) (by decide) (by decide)
  have c4 := hc 4 (by decide) (by decide) (by decide)
  have c5 := hc 5 (by decide) (by decide) (by decide)
  have c50 := hc 50 (by decide) (by decide) (by decide)
  have c52 := hc 52 (by decide) (by decide) (by decide)
  have c53 := hc 53 (by decide) (by decide) (by decide)
  have c54 := hc 54 (by decide) (by decide) (by decide)
  have kgv : ∀ b, z'.1 (gv b) = z.1 (gv b) := fun b => by cases b; exact k6; exact k7
  have hl : ∀ w, w < m + 1 → ¬ w = m → w < z.2.1 1 := fun w hw hn => by omega
  obtain ⟨p1, p2, p3, p4, p5, p6, p7, p8, p9⟩ := C
  have C' : CN z' n := by
    refine ⟨by rw [c50, c0]; exact p1, by rw [c0]; exact p2, by rw [c0]; exact p3, by rw [hc5, hc0], by rw [hc0]; omega, by rw [c52, c2]; exact p6, by rw [c2]; exact p7, ?_, ?_⟩
    · exact ⟨c53.trans p8.1, c4.trans p8.2.1, by rw [c3]; exact p8.2.2.1, p8.2.2.2⟩
    · exact ⟨c54.trans p9.1, c5.trans p9.2.1, by rw [c3]; exact p9.2.2.1, p9.2.2.2⟩
  refine ⟨n, W, H0, ne, ⟨⟨?_, ?_, ?_, ?_, ?_, ?_⟩, ⟨C', ?_, ?_, ?_, ?_⟩, by rw [c0]; exact e3, ?_, ?_, e6, ?_, ?_⟩, by rw [h0]; exact g1, g2, by rw [h0, h10 11 (by decide)]; exact g3, by rw [hW, hc0], ?_, ?_, ?_, ?_, by rw [c3]; exact g9⟩
  · intro j hj
    rw [kgv, show z'.1 (gm false 2) = z.1 (gm false 2) from k12]
    exact s1 j hj
  · intro j k hj hk
    rw [k4, show z'.1 (gm false 2) = z.1 (gm false 2) from k12]
    exact s2 j k hj hk
  · intro j e hj he
    rw [k5, mLe_c (z := z) (z' := z') (b := false) (fun u k _ => by rw [show z'.1 (gm false 2) = z.1 (gm false 2) from k12])]
    exact s3 j e hj he
  · intro w k hw hk
    rw [c0] at hw
    rw [k1, show z'.1 (gm false 1) = z.1 (gm false 1) from k11]
    exact s4 w k hw hk
  · intro q k hq hk
    rw [hc0] at hq
    rw [w1, show z'.1 (gm false 3) = _ from w11]
    by_cases e : q = m
    · rw [e, u1_s, u1_s]
    · rw [u1_n _ _ e, u1_n _ _ e]
      exact s5 q k (hl q hq e) hk
  · intro q hq
    rw [hc0] at hq
    rw [w1]
    by_cases e : q = m
    · rw [e, u1_s]
      exact hd
    · rw [u1_n _ _ e]
      exact s6 q (hl q hq e)
  · intro w hw
    rw [c0] at hw
    rw [k1]
    exact hd0 w hw
  · intro j hj
    rw [k4]
    exact hw0 j hj
  · intro a ha
    rw [c2] at ha
    rw [hc0, k3]
    obtain ⟨x, hx, ex⟩ := ha0 a ha
    exact ⟨x, by omega, ex⟩
  · intro j hj
    rw [kgv]
    exact hv0 j hj
  · obtain ⟨m1, m2, m3, m4, m5, m6, m7⟩ := M
    exact ⟨(h10 5 (by decide)).trans m1, m2, (h10 1 (by decide)).trans m3, m4, m5, (h10 0 (by decide)).trans m6, m7⟩
  · exact (h10 9 (by decide)).trans e5
  · rw [k3, c2, show z'.1 (gm false 4) = z.1 (gm false 4) from k14]
    exact e7
  · rw [c2, k3]
    exact e8
  · intro q k hq h4 h6
    rw [hc0] at hq
    rw [w1, show z'.1 (gm false 3) = _ from w11]
    by_cases e : q = m
    · rw [e, u1_s, u1_s]
    · rw [u1_n _ _ e, u1_n _ _ e]
      exact g5 q k (hl q hq e) h4 h6
  · rw [c2, k3]
    exact g6
  · rw [k11]
    exact g7
  · intro b j hj
    rw [kgv]
    exact g8 b j hj
theorem ls_move {G : GE} {x y o : Nat} : LS_move G x y o (IV G x y o) := by
  rintro h ⟨z, R, ⟨rfl, rfl, rfl⟩, Gd⟩ a0 a1 a2 a3
  have Gd' := Gd
  obtain ⟨n, W, H0, ne, S, g1, g2, g3, g4, g5, g6, g7, g8, g9⟩ := Gd
  have H := S.2.1
  have C := H.1
  have M := S.2.2.2.1
  have h16 := (C.t false).2.2.2
  have h12 := C.2.2.2.2.1
  have hn : z.1 10 0 5 = nI n := M.1
  have hw := H.wi H0
  have h31 : H0 < 2 ^ 31 := by omega
  have s0 : f_Jx4a65c_size_8abf5 G (z.2.2.2 (bL 1)) h = some (nI (z.2.1 1), h) := by rw [← show z.2.1 51 = z.2.1 1 from C.2.2.2.1]; exact s_size R (k := 1) (by decide)
  have hA : ∀ a, a < z.2.1 2 → (z.1 3 a 0).toNatClampNeg < z.2.1 1 := fun a ha => H.mo ha
  by_cases c0 : isB 16 a0
  rotate_left
  · refine both_no R Gd' (E := "java/lang/IllegalArgumentException") 1 ?_ (by decide) (by decide) (fun h2 h3 h4 e3 R3 i9 e4 => ?_)
    · simp only [f_X6_move, bd_s, if_neg ne10, (s_dirO c0).1, if_true, f_X6_move_b37]
    · simp only [f_X8_move, e3, rd_s, bd_s, if_neg ne10, (s_dirO c0).2, if_true, f_X8_move_b45, i9, e4]
  by_cases c1 : isW 0 7 a1
  rotate_left
  · refine both_no R Gd' (E := "java/lang/IllegalArgumentException") 1 ?_ (by decide) (by decide) (fun h2 h3 h4 e3 R3 i9 e4 => ?_)
    · simp only [f_X6_move, bd_s, if_neg ne10, (s_dirI c0).1, (s_wO c1).1, if_true, f_X6_move_b37]
    · simp only [f_X8_move, e3, rd_s, bd_s, if_neg ne10, (s_dirI c0).2, (s_wO c1).2, if_true, f_X8_move_b45, i9, e4]
  by_cases c2 : isW 0 99 a2
  rotate_left
  · refine both_no R Gd' (E := "java/lang/IllegalArgumentException") 1 ?_ (by decide) (by decide) (fun h2 h3 h4 e3 R3 i9 e4 => ?_)
    · simp only [f_X6_move, bd_s, if_neg ne10, (s_dirI c0).1, (s_wI c1).1, (s_wO c2).1, if_true, f_X6_move_b37]
    · simp only [f_X8_move, e3, rd_s, bd_s, if_neg ne10, (s_dirI c0).2, (s_wI c1).2, (s_wO c2).2, if_true, f_X8_move_b45, i9, e4]
  by_cases c3 : isW 0 3 a3
  rotate_left
  · refine both_no R Gd' (E := "java/lang/IllegalArgumentException") 1 ?_ (by decide) (by decide) (fun h2 h3 h4 e3 R3 i9 e4 => ?_)
    · simp only [f_X6_move, bd_s, if_neg ne10, (s_dirI c0).1, (s_wI c1).1, (s_wI c2).1, (s_wO c3).1, if_true, f_X6_move_b37]
    · simp only [f_X8_move, e3, rd_s, bd_s, if_neg ne10, (s_dirI c0).2, (s_wI c1).2, (s_wI c2).2, (s_wO c3).2, if_true, f_X8_move_b45, i9, e4]
  by_cases c4 : z.2.1 1 < 12
  · have R2 := R.nM (i := z.2.1 1) (Nat.le_of_eq C.2.2.2.1) (Nat.le_refl _) hA (rM a0 a1 a2 a3)
    have R2 : Rp G _ (FR h (.inr (3, [.int (nI (z.2.1 1)), .int a0, .int a1, .int a2, .int a3, .int 0, .int 0]))) := R2
    have p2 : ∀ l, ¬ l = bmo (z.2.1 1) → (nwE z 2 1 (z.2.1 1) (bmo (z.2.1 1)) (rM a0 a1 a2 a3) h.1).2.2.2 l = z.2.2.2 l := fun l hl => nwE_p hl
    have i2 : isC 0 (FR h (.inr (3, [.int (nI (z.2.1 1)), .int a0, .int a1, .int a2, .int a3, .int 0, .int 0]))) (z.2.2.2 (bL 1)) = some () := by have t := c_oL R2 (k := 1) (by decide); rw [p2 _ (fun e => by cases e)] at t; exact t
    obtain ⟨h3, z3, e3, R3, N, ad, rfl⟩ := s_add R2 (k := 1) (n := z.2.1 1) (by decide) C.2.2.2.1 (by omega) (fun i hi => ⟨3, _, e_mo (by rw [nwE_c]; have hi : i < z.2.1 51 := hi; rw [show z.2.1 51 = z.2.1 1 from C.2.2.2.1] at hi; omega), by decide⟩) ⟨3, _, e_mo (by rw [nwE_c]; omega), by decide⟩
    have e3 : f_Jx4a65c_add_9ea2d G (z.2.2.2 (bL 1)) h.1 (FR h (.inr (3, [.int (nI (z.2.1 1)), .int a0, .int a1, .int a2, .int a3, .int 0, .int 0]))) = some (1, h3) := by
      rw [p2 _ (fun e => by cases e), show el 1 (z.2.1 1) = bmo (z.2.1 1) from rfl, nwE_a] at e3
      exact e3
    generalize hZ : uL (uI (nwE z 2 1 (z.2.1 1) (bmo (z.2.1 1)) (rM a0 a1 a2 a3) h.1) 8 1 0 ((nwE z 2 1 (z.2.1 1) (bmo (z.2.1 1)) (rM a0 a1 a2 a3) h.1).1 8 1 0 + 1)) 1 (z.2.1 1 + 1) N ad = Z at R3
    have pZ : ∀ l, ¬ l = bmo (z.2.1 1) → ¬ l = bA 1 → Z.2.2.2 l = z.2.2.2 l := fun l h1 h2 => by rw [← hZ, uL_ad h2]; exact p2 l h1
    have zg : ∀ q, ¬ q = 2 → ¬ q = 8 → Z.1 q = z.1 q := fun q h1 h8 => by
      rw [← hZ]
      simp [uL, uI, uR, uG, nwE, h1, h8]
    have z1 : Z.1 2 = u1 (z.1 2) (z.2.1 1) (rM a0 a1 a2 a3) := by rw [← hZ]; rfl
    have zc : ∀ c, ¬ c = 1 → ¬ c = 51 → ¬ c = 61 → Z.2.1 c = z.2.1 c := fun c h0 h5 h6 => by
      rw [← hZ]
      simp [uL, uI, uR, uG, nwE, h0, h5, h6]
    have z0 : Z.2.1 1 = z.2.1 1 + 1 := by rw [← hZ]; rfl
    have z5 : Z.2.1 51 = z.2.1 1 + 1 := by rw [← hZ]; rfl
    refine both_ok R ⟨rfl, rfl, rfl⟩ (r := nI (z.2.1 1)) ⟨h3, Z, ?_, R3, ⟨pZ _ (fun e => by cases e) (fun e => by cases e), pZ _ (fun e => by cases e) (fun e => by cases e), pZ _ (fun e => by cases e) (fun e => by cases e)⟩, fun h4 R4 => ?_⟩
    · simp only [f_X6_move, (s_dirI c0).1, bd_s, if_neg ne10, (s_wI c1).1, (s_wI c2).1, (s_wI c3).1, g_V_2 R, rd_s, c_oL R (show 1 < 5 by decide), s0, if_pos (show nI (z.2.1 1) < (12 : Int32) from nI_lt (b := 12) c4 (by decide)), fr_nw, init_X2, i2, e3]
    · have hWZ : Z.1 10 0 7 = nI (z.2.1 1) := by rw [zg 10 (by decide) (by decide)]; exact g4
      obtain ⟨h5, e5, R5⟩ := s_mmove R4 c0 c1 c2 c3 (m := z.2.1 1) hWZ c4
      have e5 : f_X8_move G (Z.2.2.2 bX) a0 a1 a2 a3 h4 = some (nI (z.2.1 1), h5) := e5
      rw [pZ _ (fun e => by cases e) (fun e => by cases e)] at e5
      refine ⟨h5, _, e5, R5, ⟨pZ _ (fun e => by cases e) (fun e => by cases e), pZ _ (fun e => by cases e) (fun e => by cases e), pZ _ (fun e => by cases e) (fun e => by cases e)⟩, rfl, rfl, ?_⟩
      refine Good.motion (z := z) (m := z.2.1 1) (r := rM a0 a1 a2 a3) Gd' rfl c4 (fun q q0 q1 q8 q10 q11 => ?_) (fun k => ?_) (fun k hk => ?_) rfl zc z0 z5 z1 ?_ c0
      · rw [← zg q q1 q8]
        simp [uI, uR, uG, uO, q0, q1, q8, q10, q11]
      · show Z.1 0 0 k = _
        rw [zg 0 (by decide) (by decide)]
      · show u1 (Z.1 10 0) 7 _ k = _
        rw [u1_n _ _ hk, zg 10 (by decide) (by decide)]
      · show u1 (Z.1 13) _ _ = _
        rw [zg 13 (by decide) (by decide)]
  · have hM12 : z.2.1 1 = 12 := by omega
    refine both_no R Gd' (E := "java/lang/IllegalStateException") 2 ?_ (by decide) (by decide) (fun h2 h3 h4 e3 R3 i9 e4 => ?_)
    · simp only [f_X6_move, (s_dirI c0).1, bd_s, if_neg ne10, (s_wI c1).1, (s_wI c2).1, (s_wI c3).1, g_V_2 R, rd_s, c_oL R (show 1 < 5 by decide), s0, if_neg (show ¬ nI (z.2.1 1) < (12 : Int32) by rw [hM12]; decide)]
    · obtain ⟨-, x1, x2, i8, -⟩ : NF z h3 := R3.nf
      have y1 : gI 8 h3 (z.2.2.2 (bst false)) 7 = some (12 : Int32) := by have t := g_st_7 R3 (b := false); rw [show (uI z 0 1 0 0).1 (gm false 0) 0 7 = (12 : Int32) by rw [show (uI z 0 1 0 0).1 (gm false 0) 0 7 = z.1 10 0 7 from rfl, g4, hM12]; rfl] at t; exact t
      simp only [f_X8_move, e3, rd_s, (s_dirI c0).2, bd_s, if_neg ne10, (s_wI c1).2, (s_wI c2).2, (s_wI c3).2, x1, y1, if_true, i9, e4]
