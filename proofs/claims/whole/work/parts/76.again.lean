/-! ===== the town ahead and the state ahead, laid anew ===== -/
def cA (n : Nat) (z : Zs) : Zs := uG z 7 (mapN n (oF z) (z.1 7))
theorem cA_AH (n : Nat) (z : Zs) : AH true z (cA n z) := AH.uv true z _
theorem rCp_k (o r : Nat → Int32) {k : Nat} (h4 : 4 ≤ k) (h9 : k < 10) : rCp o r k = o k := by
  match k, h4, h9 with
  | 4, _, _ => rfl
  | 5, _, _ => rfl
  | 6, _, _ => rfl
  | 7, _, _ => rfl
  | 8, _, _ => rfl
  | 9, _, _ => rfl
theorem cA_row (n : Nat) (z : Zs) {j k : Nat} (hj : j < n) (h4 : 4 ≤ k) (h9 : k < 10) : (cA n z).1 7 j k = z.1 6 j k := by
  show (uG z 7 (mapN n (oF z) (z.1 7))).1 7 j k = _
  rw [uG_s, mapN_lt hj]
  exact rCp_k _ _ h4 h9
theorem VB_c {r s : Nat → Int32} (h : VB s) (e : ∀ k, 4 ≤ k → k < 10 → r k = s k) : VB r := by
  unfold VB
  rw [e 4 (by decide) (by decide), e 5 (by decide) (by decide), e 6 (by decide) (by decide), e 7 (by decide) (by decide), e 8 (by decide) (by decide)]
  exact h
theorem cA_HB {z : Zs} {n : Nat} (H : HB z false n) : HB (cA n z) true n :=
  ⟨H.1, H.2.1, H.2.2.1, H.2.2.2.1, fun j hj => VB_c (H.2.2.2.2 j hj) (fun k h4 h9 => cA_row n z hj h4 h9)⟩
/-- another world's town ahead copied: the same -/
theorem cA_of {G : GE} {z y : Zs} {h : PH} {n : Nat} (T : TW z true n) (A : AH true z y) (R : Rp G (cA n y) h) : Rp G (cA n z) h := by
  have h2 : (cA n z).2 = (cA n y).2 := A.1.symm
  refine ⟨?_, by rw [WL, h2]; exact R.2⟩
  rw [h2]
  refine R.1.ex (fun l => ?_)
  have e0 : ∀ g, ¬ g = 7 → (cA n z).1 g = (cA n y).1 g := fun g hg => by
    rw [(cA_AH n z).2 g hg, (cA_AH n y).2 g hg]
    exact (A.2 g hg).symm
  by_cases hl : ∃ j, l = bvn true j
  · obtain ⟨j, rfl⟩ := hl
    have hn : (cA n z).2.1 (nv true) = n := T.2.1
    have hn' : (cA n y).2.1 (nv true) = n := by rw [← h2]; exact hn
    by_cases hj : j < n
    · rw [e_vn (by rw [hn]; exact hj), e_vn (by rw [hn']; exact hj), h2]
      have e6 : y.1 6 = z.1 6 := A.2 6 (by decide)
      have er : ∀ k, 4 ≤ k → k < 10 → (cA n z).1 (gv true) j k = (cA n y).1 (gv true) j k := fun k h4 h9 => by
        rw [show gv true = 7 from rfl, cA_row n z hj h4 h9, cA_row n y hj h4 h9, e6]
      rw [er 4 (by decide) (by decide), er 5 (by decide) (by decide), er 6 (by decide) (by decide), er 7 (by decide) (by decide), er 8 (by decide) (by decide), er 9 (by decide) (by decide)]
    · simp only [ct, hn, hn', if_neg hj]
  · refine ct_dep h2 l (fun g a hd => ?_)
    by_cases hg : g = 7
    · subst hg
      exact absurd ⟨a, d_vn true a hd⟩ hl
    · rw [e0 g hg]
theorem s_copyC {G : GE} {z y : Zs} {h : PH} {n : Nat} (C : CN z n) (A : AH true z y) (R : Rp G y h) : ∃ h', f_X3_copyAllFrom G (z.2.2.2 (btn true)) (z.2.2.2 (btn false)) h = some ((), h') ∧ Rp G (cA n z) h' := by
  have hT : ∀ b, TW y b n := fun b => by
    have t := C.t b
    unfold TW at t ⊢
    rw [A.1]
    exact t
  obtain ⟨h', e', R'⟩ := s_copyAllFrom R (hT false) (hT true)
  rw [A.1] at e'
  exact ⟨h', e', cA_of (C.t true) A R'⟩
def cV (n v : Nat) (z : Zs) : Zs := uR (cA n z) 7 v (rOil ((cA n z).1 7 v))
theorem cV_AH (n v : Nat) (z : Zs) : AH true z (cV n v z) := (cA_AH n z).tr (AH.rw' v _)
theorem cV_HB {z : Zs} {n v : Nat} (H : HB z false n) : HB (cV n v z) true n := by
  have hA := cA_HB H
  refine ⟨H.1, H.2.1, H.2.2.1, H.2.2.2.1, fun j hj => ?_⟩
  show VB ((uR (cA n z) 7 v (rOil ((cA n z).1 7 v))).1 7 j)
  by_cases e : j = v
  · subst e
    rw [uR_s]
    exact VB_oil (hA.2.2.2.2 j hj)
  · rw [uR_n _ _ (fun q => e q.2)]
    exact hA.2.2.2.2 j hj
theorem mLe_x {z z' : Zs} {b b' : Bool} {n v : Nat} (hv : v < n) (hc : ∀ u, u < n → z'.1 (gm b' 2) u = z.1 (gm b 2) u) (dx dy : Int32) : mLe z' b' v dx dy n = mLe z b v dx dy n := by
  have e : ∀ s, sumV (mT z' b' v dx dy s) n = sumV (mT z b v dx dy s) n := fun s => sumV_c n (fun u hu => by
    unfold mT
    rw [hc u hu, hc v hv])
  unfold mLe
  rw [e, e, e]
/-- the state ahead, as become leaves it -/
def BM (z m : Zs) : Prop := (m.1 20 0 0 = z.1 10 0 0 ∧ m.1 20 0 1 = z.1 10 0 1 ∧ m.1 20 0 5 = z.1 10 0 5 ∧ m.1 20 0 7 = z.1 10 0 7 ∧ m.1 20 0 9 = z.1 10 0 9 ∧ m.1 20 0 11 = z.1 10 0 11) ∧ (∀ r i, r < 3 → i < 24 → m.1 21 r i = z.1 11 r i) ∧ (∀ v, v < 16 → m.1 22 v = z.1 12 v) ∧ (∀ q, q < 12 → m.1 23 q = z.1 13 q) ∧ (∀ a, a < 20 → m.1 24 a = z.1 14 a)
theorem SimH.ahead {n W H0 ne : Nat} {z m : Zs} (S : SimH n W H0 ne z false z false) (B : BM z m) : SimH n W H0 ne (cA n z) true m true := by
  obtain ⟨⟨s1, s2, s3, s4, s5, s6⟩, H, e3, M, e5, e6, e7, e8⟩ := S
  obtain ⟨⟨b0, b1, b5, b7, b9, b11⟩, bw, bv, bm, ba⟩ := B
  have h16 := (H.1.t false).2.2.2
  have h24 := H.1.2.2.1
  have h12 := H.1.2.2.2.2.1
  refine ⟨⟨?_, ?_, ?_, ?_, ?_, s6⟩, cA_HB H, e3, ?_, ?_, e6, ?_, e8⟩
  · intro j hj k h4 h9
    rw [show gv true = 7 from rfl, cA_row n z hj h4 h9, show m.1 (gm true 2) j = z.1 12 j from bv j (by omega)]
    exact s1 j hj k h4 h9
  · intro j k hj hk
    rw [show m.1 (gm true 2) j = z.1 12 j from bv j (by omega)]
    exact s2 j k hj hk
  · intro j e hj he
    rw [mLe_x (z := z) (b := false) hj (fun u hu => bv u (by omega))]
    exact s3 j e hj he
  · intro w k hw hk
    have hw : w < z.2.1 0 := hw
    rw [show m.1 (gm true 1) k w = z.1 11 k w from bw k w hk (by omega)]
    exact s4 w k hw hk
  · intro q k hq hk
    have hq : q < z.2.1 1 := hq
    rw [show m.1 (gm true 3) q = z.1 13 q from bm q (by omega)]
    exact s5 q k hq hk
  · obtain ⟨m1, m2, m3, m4, m5, m6, m7⟩ := M
    exact ⟨b5.trans m1, m2, b1.trans m3, m4, m5, b0.trans m6, m7⟩
  · exact b9.trans e5
  · show rowL (m.1 24) ne 0 = _
    rw [rowL_c (f := m.1 24) (g := z.1 14) ne 0 0 (fun i hi => ba _ (by omega))]
    exact e7
theorem rOil_c (r : Nat → Int32) {k : Nat} (hk : k < 4) : rOil r k = r k := by
  unfold rOil
  rw [u1_n _ _ (by omega), u1_n _ _ (by omega)]
theorem SimH.oilT {n W t ne v : Nat} {c m : Zs} (S : SimH n W t ne c true m true) : SimH n W t ne (uR c 7 v (rOil (c.1 7 v))) true (uR m 22 v (rOil (m.1 22 v))) true := by
  obtain ⟨s1, s2, s3, s4, s5, s6, s7, s8⟩ := S
  have hr : ∀ (P : (Nat → Int32) → Prop), (∀ r, P r → P (rOil r)) → ∀ (y : Zs) (g : Nat), (∀ j, j < n → P (y.1 g j)) → ∀ j, j < n → P ((uR y g v (rOil (y.1 g v))).1 g j) := fun P hP y g hy j hj => by
    by_cases e : j = v
    · subst e
      rw [uR_s]
      exact hP _ (hy j hj)
    · rw [uR_n _ _ (fun q => e q.2)]
      exact hy j hj
  refine ⟨s1.mk' (SK.uv c true _) (fun u k hk => ?_) rfl (fun _ _ _ => rfl) (fun j hj => ?_), s2.sk (SK.uv c true _) (hr VB (fun r => VB_oil) c 7 s2.2.2.2.2), s3, s4.of rfl, s5, s6, s7, s8⟩
  · show (uR m 22 v (rOil (m.1 22 v))).1 22 u k = m.1 22 u k
    by_cases e : u = v
    · subst e
      rw [uR_s]
      exact rOil_c _ hk
    · rw [uR_n _ _ (fun q => e q.2)]
  · show SR ((uR c 7 v (rOil (c.1 7 v))).1 7 j) ((uR m 22 v (rOil (m.1 22 v))).1 22 j)
    by_cases e : j = v
    · subst e
      rw [uR_s, uR_s]
      exact SR.oil (s1.1 j hj)
    · rw [uR_n _ _ (fun q => e q.2), uR_n _ _ (fun q => e q.2)]
      exact s1.1 j hj
/-- the same but for what is ahead, and for the two cells of a call -/
def EQV (z z' : Zs) : Prop := z'.2.1 = z.2.1 ∧ ∀ g, g < 20 → ¬ g = 0 → ¬ g = 7 → z'.1 g = z.1 g
theorem EQV.tr {x y z : Zs} (h : EQV x y) (g : EQV y z) : EQV x z := ⟨g.1.trans h.1, fun a h1 h2 h3 => (g.2 a h1 h2 h3).trans (h.2 a h1 h2 h3)⟩
theorem EQV.ah {z z' : Zs} (h : AH true z z') : EQV z z' := ⟨by rw [h.1], fun g _ _ h7 => h.2 g h7⟩
theorem EQV.om {z z' : Zs} (h : OM true z z') : EQV z z' := ⟨by rw [h.1], fun g h20 _ _ => h.2 g (fun j _ => by show ¬ g = 20 + j; omega)⟩
theorem EQV.o0 (z : Zs) (x : Int64) (v : Int32) : EQV z (uI (uO z 0 x) 0 1 0 v) := ⟨rfl, fun g _ h0 _ => uG_n _ _ h0⟩
theorem Good.eqv {z z' : Zs} (g : Good z) (E : EQV z z') (h0 : z'.1 0 0 = z.1 0 0) (h7 : ∀ j, j < z.2.1 3 → VB (z'.1 7 j)) : Good z' := by
  obtain ⟨n, W, H0, ne, S, g1, g2, g3, g4, g5, g6, g7, g8, g9⟩ := g
  obtain ⟨⟨s1, s2, s3, s4, s5, s6⟩, ⟨C, hd0, hw0, ha0, hv0⟩, e3, M, e5, e6, e7, e8⟩ := S
  obtain ⟨hN, hg⟩ := E
  have k1 := hg 1 (by decide) (by decide) (by decide)
  have k2 := hg 2 (by decide) (by decide) (by decide)
  have k3 := hg 3 (by decide) (by decide) (by decide)
  have k4 := hg 4 (by decide) (by decide) (by decide)
  have k5 := hg 5 (by decide) (by decide) (by decide)
  have k6 := hg 6 (by decide) (by decide) (by decide)
  have k10 := hg 10 (by decide) (by decide) (by decide)
  have k11 := hg 11 (by decide) (by decide) (by decide)
  have k12 := hg 12 (by decide) (by decide) (by decide)
  have k13 := hg 13 (by decide) (by decide) (by decide)
  have k14 := hg 14 (by decide) (by decide) (by decide)
  have kf : z'.1 (gv false) = z.1 (gv false) := k6
  refine ⟨n, W, H0, ne, ⟨⟨?_, ?_, ?_, ?_, ?_, ?_⟩, ⟨?_, ?_, ?_, ?_, ?_⟩, by rw [hN]; exact e3, M.of k10, by rw [show z'.1 (gm false 0) = z.1 (gm false 0) from k10]; exact e5, e6, ?_, ?_⟩, by rw [h0]; exact g1, g2, by rw [h0, k10]; exact g3, by rw [k10, hN]; exact g4, ?_, by rw [hN, k3]; exact g6, by rw [k11]; exact g7, ?_, by rw [hN]; exact g9⟩
  · rw [kf, show z'.1 (gm false 2) = z.1 (gm false 2) from k12]
    exact s1
  · rw [k4, show z'.1 (gm false 2) = z.1 (gm false 2) from k12]
    exact s2
  · intro j e hj he
    rw [k5, mLe_c (z := z) (z' := z') (b := false) (fun u k _ => by rw [show z'.1 (gm false 2) = z.1 (gm false 2) from k12])]
    exact s3 j e hj he
  · rw [hN, k1, show z'.1 (gm false 1) = z.1 (gm false 1) from k11]
    exact s4
  · rw [hN, k2, show z'.1 (gm false 3) = z.1 (gm false 3) from k13]
    exact s5
  · rw [hN, k2]
    exact s6
  · unfold CN TW at C ⊢
    rw [hN]
    exact C
  · rw [hN, k1]
    exact hd0
  · rw [k4]
    exact hw0
  · rw [hN, k3]
    exact ha0
  · rw [kf]
    exact hv0
  · rw [hN, k3, show z'.1 (gm false 4) = z.1 (gm false 4) from k14]
    exact e7
  · rw [hN, k3]
    exact e8
  · intro q k hq
    rw [hN] at hq
    rw [k2, show z'.1 (gm false 3) = z.1 (gm false 3) from k13]
    exact g5 q k hq
  · intro b j hj
    cases b
    · rw [kf]
      exact hv0 j hj
    · exact h7 j (by rw [g9]; exact hj)
/-- the model lays its state ahead -/
theorem s_become2 {G : GE} {z m : Zs} {h : PH} (R : Rp G m h) (E : EQV z m) (g7 : ∀ i, i < 24 → z.1 11 2 i = 0 ∨ z.1 11 2 i = 1) : ∃ h' m', f_X7_become G (m.2.2.2 (bst true)) (m.2.2.2 (bst false)) h = some ((), h') ∧ Rp G m' h' ∧ BM z m' ∧ m'.2 = m.2 ∧ ∀ g, g < 20 → m'.1 g = m.1 g := by
  have k10 := E.2 10 (by decide) (by decide) (by decide)
  have k11 := E.2 11 (by decide) (by decide) (by decide)
  have k12 := E.2 12 (by decide) (by decide) (by decide)
  have k13 := E.2 13 (by decide) (by decide) (by decide)
  have k14 := E.2 14 (by decide) (by decide) (by decide)
  obtain ⟨h', m', e', R', B⟩ := s_become R (by rw [k11]; exact g7)
  obtain ⟨h2, hg, h0, hw, hv, hm, ha⟩ := B
  refine ⟨h', m', e', R', ⟨?_, ?_, ?_, ?_, ?_⟩, h2, hg⟩
  · rw [← k10]
    exact h0
  · rw [← k11]
    exact hw
  · rw [← k12]
    exact hv
  · rw [← k13]
    exact hm
  · rw [← k14]
    exact ha
theorem s_mfirst0 {G : GE} {z m : Zs} {h : PH} {n W H0 ne N q : Nat} (R : Rp G m h) (S : SimH n W H0 ne z false z false) (E : EQV z m) (g7 : ∀ i, i < 24 → z.1 11 2 i = 0 ∨ z.1 11 2 i = 1) (hN : H0 + N ≤ 2000) (hq : q < z.2.1 1) :
    ∃ h' m', f_X8_first G (m.2.2.2 bX) (nI q) (nI N) (-1 : Int32) h = some (if hwP q n H0 N 0 (cA n z) < N then nI (H0 + hwP q n H0 N 0 (cA n z)) else -1, h') ∧ Rp G m' h' ∧ m'.2 = m.2 ∧ ∀ g, g < 20 → m'.1 g = m.1 g := by
  obtain ⟨h1, m1, e1, R1, B1, p1, q1⟩ := s_become2 R E g7
  obtain ⟨h2, m2, e2, R2, O2⟩ := sl_first (G := G) (n := n) (W := W) (N := N) (H0 := H0) (q := q) hN N 0 LF (cA n z) m1 h1 ne (by omega) (by unfold LF; omega) hq R1 (S.ahead B1)
  rw [p1] at e2
  have e2 : f_X8_first_b27 G LF (m.2.2.2 bX) (nI q) (nI N) (0 : Int32) h1 = _ := e2
  refine ⟨h2, m2, ?_, R2, O2.1.trans p1, fun g hg => (O2.2 g (fun j _ => by show ¬ g = 20 + j; omega)).trans (q1 g hg)⟩
  simp only [f_X8_first, g_X_2 R, g_X_1 R, rd_s, c_ost R, e1, bd_s, if_true, f_X8_first_b24, e2]
theorem s_mfirst1 {G : GE} {z m : Zs} {h : PH} {n W H0 ne N q v : Nat} (R : Rp G m h) (S : SimH n W H0 ne z false z false) (E : EQV z m) (g7 : ∀ i, i < 24 → z.1 11 2 i = 0 ∨ z.1 11 2 i = 1) (hN : H0 + N ≤ 2000) (hq : q < z.2.1 1) (hv : v < n) :
    ∃ h' m', f_X8_first G (m.2.2.2 bX) (nI q) (nI N) (nI v) h = some (if hwP q n H0 N 0 (cV n v z) < N then nI (H0 + hwP q n H0 N 0 (cV n v z)) else -1, h') ∧ Rp G m' h' ∧ m'.2 = m.2 ∧ ∀ g, g < 20 → m'.1 g = m.1 g := by
  have h16 := (S.2.1.1.t false).2.2.2
  obtain ⟨h1, m1, e1, R1, B1, p1, q1⟩ := s_become2 R E g7
  obtain ⟨h3, e3, R3⟩ := s_moil R1 (b := true) (v := v) (by omega)
  rw [p1] at e3
  have x2 : gR 9 h1 (m.2.2.2 bX) 2 = some (m.2.2.2 (bst true)) := by rw [← p1]; exact g_X_2 R1
  have i8 : isC 8 h1 (m.2.2.2 (bst true)) = some () := by rw [← p1]; exact c_ost R1
  obtain ⟨h2, m2, e2, R2, O2⟩ := sl_first (G := G) (n := n) (W := W) (N := N) (H0 := H0) (q := q) hN N 0 LF (cV n v z) _ h3 ne (by omega) (by unfold LF; omega) hq R3 ((S.ahead B1).oilT (v := v))
  have e2 : f_X8_first_b27 G LF (m1.2.2.2 bX) (nI q) (nI N) (0 : Int32) h3 = _ := e2
  rw [p1] at e2
  have hne : ¬ nI v = (-1 : Int32) := fun e => by
    have := congrArg Int32.toInt e
    rw [nI_toInt (by omega), show (-1 : Int32).toInt = -1 by decide] at this
    omega
  refine ⟨h2, m2, ?_, R2, O2.1.trans p1, fun g hg => ?_⟩
  · simp only [f_X8_first, g_X_2 R, g_X_1 R, rd_s, c_ost R, e1, bd_s, if_neg hne, x2, i8, e3, f_X8_first_b24, e2]
  · rw [O2.2 g (fun j _ => by show ¬ g = 20 + j; omega)]
    rw [show (uR m1 (gm true 2) v (rOil (m1.1 (gm true 2) v))).1 g = m1.1 g from uG_n _ _ (by show ¬ g = 22; omega)]
    exact q1 g hg
