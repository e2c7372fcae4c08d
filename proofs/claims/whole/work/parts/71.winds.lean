/-! ===== winds begun, winds added ===== -/
theorem Good.winds {z z' : Zs} {i : Nat} {r : Nat → Int32} (g : Good z) (hi : i ≤ z.2.1 0) (h24 : i < 24)
    (hg : ∀ q, ¬ q = 0 → ¬ q = 1 → ¬ q = 8 → ¬ q = 10 → ¬ q = 11 → z'.1 q = z.1 q) (h0 : ∀ k, z'.1 0 0 k = z.1 0 0 k)
    (h10 : ∀ k, ¬ k = 1 → z'.1 10 0 k = z.1 10 0 k) (hW : z'.1 10 0 1 = nI (i + 1)) (hc : ∀ c, ¬ c = 0 → ¬ c = 50 → ¬ c = 60 → z'.2.1 c = z.2.1 c) (hc0 : z'.2.1 0 = i + 1) (hc5 : z'.2.1 50 = i + 1)
    (w1 : z'.1 1 = u1 (z.1 1) i r) (w11 : ∀ k, k < 3 → z'.1 11 k = u1 (z.1 11 k) i (r k)) (hd : isD (r 0)) (hz : r 2 = 0 ∨ r 2 = 1) : Good z' := by
  obtain ⟨n, W, H0, ne, S, g1, g2, g3, g4, g5, g6, g7, g8, g9⟩ := g
  obtain ⟨⟨s1, s2, s3, s4, s5, s6⟩, ⟨C, hd0, hw0, ha0, hv0⟩, e3, M, e5, e6, e7, e8⟩ := S
  have k2 := hg 2 (by decide) (by decide) (by decide) (by decide) (by decide)
  have k3 := hg 3 (by decide) (by decide) (by decide) (by decide) (by decide)
  have k4 := hg 4 (by decide) (by decide) (by decide) (by decide) (by decide)
  have k5 := hg 5 (by decide) (by decide) (by decide) (by decide) (by decide)
  have k6 := hg 6 (by decide) (by decide) (by decide) (by decide) (by decide)
  have k7 := hg 7 (by decide) (by decide) (by decide) (by decide) (by decide)
  have k12 := hg 12 (by decide) (by decide) (by decide) (by decide) (by decide)
  have k13 := hg 13 (by decide) (by decide) (by decide) (by decide) (by decide)
  have k14 := hg 14 (by decide) (by decide) (by decide) (by decide) (by decide)
  have c1 := hc 1 (by decide) (by decide) (by decide)
  have c2 := hc 2 (by decide) (by decide) (by decide)
  have c3 := hc 3 (by decide) (by decide) (by decide)
  have c4 := hc 4 (by decide) (by decide) (by decide)
  have c5 := hc 5 (by decide) (by decide) (by decide)
  have c51 := hc 51 (by decide) (by decide) (by decide)
  have c52 := hc 52 (by decide) (by decide) (by decide)
  have c53 := hc 53 (by decide) (by decide) (by decide)
  have c54 := hc 54 (by decide) (by decide) (by decide)
  have kgv : ∀ b, z'.1 (gv b) = z.1 (gv b) := fun b => by cases b; exact k6; exact k7
  have hl : ∀ w, w < i + 1 → ¬ w = i → w < z.2.1 0 := fun w hw hn => by omega
  obtain ⟨p1, p2, p3, p4, p5, p6, p7, p8, p9⟩ := C
  have C' : CN z' n := by
    refine ⟨by rw [hc5, hc0], by rw [hc0]; omega, by rw [hc0]; omega, by rw [c51, c1]; exact p4, by rw [c1]; exact p5, by rw [c52, c2]; exact p6, by rw [c2]; exact p7, ?_, ?_⟩
    · exact ⟨c53.trans p8.1, c4.trans p8.2.1, by rw [c3]; exact p8.2.2.1, p8.2.2.2⟩
    · exact ⟨c54.trans p9.1, c5.trans p9.2.1, by rw [c3]; exact p9.2.2.1, p9.2.2.2⟩
  have hdd : ∀ w, w < i + 1 → isD (z'.1 1 w 0) := by
    intro w hw
    rw [w1]
    by_cases e : w = i
    · rw [e, u1_s]
      exact hd
    · rw [u1_n _ _ e]
      exact hd0 w (hl w hw e)
  refine ⟨n, i + 1, H0, ne, ⟨⟨?_, ?_, ?_, ?_, ?_, ?_⟩, ⟨C', ?_, ?_, ?_, ?_⟩, hc0, ?_, ?_, e6, ?_, ?_⟩, by rw [h0]; exact g1, g2, by rw [h0, h10 11 (by decide)]; exact g3, by rw [h10 7 (by decide), c1]; exact g4, ?_, ?_, ?_, ?_, by rw [c3]; exact g9⟩
  · intro j hj
    rw [kgv, show z'.1 (gm false 2) = z.1 (gm false 2) from k12]
    exact s1 j hj
  · intro j k hj hk
    rw [k4, show z'.1 (gm false 2) = z.1 (gm false 2) from k12]
    exact s2 j k hj hk
  · intro j e hj he
    rw [k5, mLe_c (z := z) (z' := z') (b := false) (fun u k _ => by rw [show z'.1 (gm false 2) = z.1 (gm false 2) from k12])]
    exact s3 j e hj he
  · intro w k hw hk
    rw [hc0] at hw
    rw [w1, show z'.1 (gm false 1) k = _ from w11 k hk]
    by_cases e : w = i
    · rw [e, u1_s, u1_s]
    · rw [u1_n _ _ e, u1_n _ _ e]
      exact s4 w k (hl w hw e) hk
  · intro q k hq hk
    rw [c1] at hq
    rw [k2, show z'.1 (gm false 3) = z.1 (gm false 3) from k13]
    exact s5 q k hq hk
  · intro q hq
    rw [c1] at hq
    rw [k2]
    exact s6 q hq
  · intro w hw
    rw [hc0] at hw
    exact hdd w hw
  · intro j hj
    rw [k4]
    exact hw0 j hj
  · intro a ha
    rw [c2] at ha
    rw [c1, k3]
    exact ha0 a ha
  · intro j hj
    rw [kgv]
    exact hv0 j hj
  · obtain ⟨m1, m2, m3, m4, m5, m6, m7⟩ := M
    exact ⟨(h10 5 (by decide)).trans m1, m2, hW, by omega, by omega, (h10 0 (by decide)).trans m6, m7⟩
  · exact (h10 9 (by decide)).trans e5
  · rw [k3, c2, show z'.1 (gm false 4) = z.1 (gm false 4) from k14]
    exact e7
  · rw [c2, k3]
    exact e8
  · intro q k hq
    rw [c1] at hq
    rw [k2, show z'.1 (gm false 3) = z.1 (gm false 3) from k13]
    exact g5 q k hq
  · rw [c2, k3]
    exact g6
  · intro j hj
    rw [w11 2 (by decide)]
    by_cases e : j = i
    · rw [e, u1_s]
      exact hz
    · rw [u1_n _ _ e]
      exact g7 j hj
  · intro b j hj
    rw [kgv]
    exact g8 b j hj
theorem s_mlay {G : GE} {z : Zs} {h : PH} (R : Rp G z h) {i : Nat} (hi : i < 24) (a b : Int32) {c : Int32} (hc : c = 0 ∨ c = 1) : ∃ h', f_X8_layWind G (z.2.2.2 bX) (nI i) a b c h = some ((), h') ∧ Rp G (uI (uI (uI z 11 0 i a) 11 1 i b) 11 2 i c) h' := by
  obtain ⟨h1, e1, R1⟩ := w_s0 R false hi a
  obtain ⟨h2, e2, R2⟩ := w_s1 R1 false hi b
  obtain ⟨h3, e3, R3⟩ := w_s2 R2 false hi hc
  have e2 : aIs h1 (z.2.2.2 (bsa false 1)) (nI i) b = some h2 := e2
  have e3 : aZs h2 (z.2.2.2 (bsa false 2)) (nI i) c = some h3 := e3
  have x1 : gR 9 h1 (z.2.2.2 bX) 1 = some (z.2.2.2 (bst false)) := by have t := g_X_1 R1; exact t
  have x2 : gR 9 h2 (z.2.2.2 bX) 1 = some (z.2.2.2 (bst false)) := by have t := g_X_1 R2; exact t
  have y1 : gR 8 h1 (z.2.2.2 (bst false)) 3 = some (z.2.2.2 (bsa false 1)) := by have t := g_st_3 R1 (b := false); exact t
  have y2 : gR 8 h2 (z.2.2.2 (bst false)) 4 = some (z.2.2.2 (bsa false 2)) := by have t := g_st_4 R2 (b := false); exact t
  refine ⟨h3, ?_, R3⟩
  simp only [f_X8_layWind, g_X_1 R, rd_s, g_st_2 R, e1, x1, y1, e2, x2, y2, e3]
theorem s_mbegin {G : GE} {z : Zs} {h : PH} (R : Rp G z h) {a b c : Int32} (ha : isB 16 a) (hb : isW 0 9 b) (hc : c = 0 ∨ c = 1) : ∃ h', f_X8_beginWind G (z.2.2.2 bX) a b c h = some (z.1 10 0 1, h') ∧ Rp G (uI (uI (uI (uI (uI z 0 1 0 0) 11 0 0 a) 11 1 0 b) 11 2 0 c) 10 0 1 1) h' := by
  obtain ⟨h1, e1, R1⟩ := w_X_0 R 0
  obtain ⟨i9, x1, x2, i8, -⟩ := R1.nf
  have y1 : gI 8 h1 (z.2.2.2 (bst false)) 1 = some (z.1 10 0 1) := by have t := g_st_1 R1 (b := false); exact t
  obtain ⟨h2, e2, R2⟩ := s_mlay R1 (i := 0) (by decide) a b hc
  have e2 : f_X8_layWind G (z.2.2.2 bX) (0 : Int32) a b c h1 = some ((), h2) := e2
  have x3 : gR 9 h2 (z.2.2.2 bX) 1 = some (z.2.2.2 (bst false)) := by have t := g_X_1 R2; exact t
  obtain ⟨h3, e3, R3⟩ := w_st_1 R2 (b := false) 1
  have e3 : sF 8 h2 (z.2.2.2 (bst false)) 1 (.int 1) = some h3 := e3
  refine ⟨h3, ?_, R3⟩
  simp only [f_X8_beginWind, e1, rd_s, (s_dirI ha).2, bd_s, if_neg ne10, (s_wI hb).2, x1, y1, i9, e2, x3, e3]
theorem s_madd {G : GE} {z : Zs} {h : PH} (R : Rp G z h) {a b c : Int32} (ha : isB 16 a) (hb : isW 0 9 b) (hc : c = 0 ∨ c = 1) {W : Nat} (hW : z.1 10 0 1 = nI W) (h24 : W < 24) : ∃ h', f_X8_addWind G (z.2.2.2 bX) a b c h = some (nI (W + 1), h') ∧ Rp G (uI (uI (uI (uI (uI z 0 1 0 0) 11 0 W a) 11 1 W b) 11 2 W c) 10 0 1 (nI (W + 1))) h' := by
  obtain ⟨h1, e1, R1⟩ := w_X_0 R 0
  obtain ⟨i9, x1, x2, i8, -⟩ := R1.nf
  have y1 : gI 8 h1 (z.2.2.2 (bst false)) 1 = some (nI W) := by rw [← hW]; have t := g_st_1 R1 (b := false); exact t
  obtain ⟨h2, e2, R2⟩ := s_mlay R1 (i := W) h24 a b hc
  have e2 : f_X8_layWind G (z.2.2.2 bX) (nI W) a b c h1 = some ((), h2) := e2
  have x3 : gR 9 h2 (z.2.2.2 bX) 1 = some (z.2.2.2 (bst false)) := by have t := g_X_1 R2; exact t
  have y3 : gI 8 h2 (z.2.2.2 (bst false)) 1 = some (nI W) := by rw [← hW]; have t := g_st_1 R2 (b := false); exact t
  obtain ⟨h3, e3, R3⟩ := w_st_1 R2 (b := false) (nI (W + 1))
  have e3 : sF 8 h2 (z.2.2.2 (bst false)) 1 (.int (nI (W + 1))) = some h3 := e3
  have x4 : gR 9 h3 (z.2.2.2 bX) 1 = some (z.2.2.2 (bst false)) := by have t := g_X_1 R3; exact t
  have y4 : gI 8 h3 (z.2.2.2 (bst false)) 1 = some (nI (W + 1)) := by have t := g_st_1 R3 (b := false); exact t
  have n24 : ¬ nI W = (24 : Int32) := fun e => by
    have := congrArg Int32.toInt e
    rw [nI_toInt (by omega), show (24 : Int32) = nI 24 from rfl, nI_toInt (by omega)] at this
    omega
  refine ⟨h3, ?_, R3⟩
  simp only [f_X8_addWind, e1, rd_s, (s_dirI ha).2, bd_s, if_neg ne10, (s_wI hb).2, x1, y1, if_neg n24, i9, e2, x3, y3, nI_1, e3, x4, y4]
