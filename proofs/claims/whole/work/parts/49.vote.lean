/-! ===== the model votes, and ends its hour ===== -/
def mEf (eff side : Int32) (r : Nat → Int32) : Nat → Int32 :=
  if eff = 1 ∧ side = 1 then rOil r else if eff = 2 ∧ side = -1 then u1 r 8 (mxI (4 : Int32) (r 8)) else if eff = 3 then u1 r 4 (mxI (0 : Int32) (mnI (9 : Int32) (r 4 + side))) else r
def gF (z : Zs) (b : Bool) (m j : Nat) : Nat → Int32 := mEf (z.1 (gm b 3) m 3) (mSide (z.1 (gm b 3) m 0) (z.1 (gm b 3) m 1) (z.1 (gm b 2) j 6)) (z.1 (gm b 2) j)
theorem s_eff1 {G : GE} {z : Zs} {h : PH} (R : Rp G z h) {b : Bool} {n m v : Nat} (hn : z.1 (gm b 0) 0 5 = nI n) (h16 : n ≤ 16) (hm : m < 12) (hv : v < n) (k54 : Nat → Int32 → Int32 → Int32 → PH → Option (Int32 × PH)) :
    ∃ h', f_X7_vote_b54_body G k54 (z.2.2.2 (bst b)) (nI m) (z.1 (gm b 3) m 3) (nI v) h = k54 (z.2.2.2 (bst b)) (nI m) (z.1 (gm b 3) m 3) (nI (v + 1)) h' ∧ Rp G (uR z (gm b 2) v (gF z b m v)) h' := by
  have hv16 : v < 16 := by omega
  unfold gF mEf
  obtain ⟨eff, he⟩ : ∃ q, q = z.1 (gm b 3) m 3 := ⟨_, rfl⟩
  obtain ⟨sd, hs⟩ : ∃ q, q = mSide (z.1 (gm b 3) m 0) (z.1 (gm b 3) m 1) (z.1 (gm b 2) v 6) := ⟨_, rfl⟩
  have hst := s_mstand R (b := b) hm hv16
  rw [← hs] at hst ⊢
  rw [← he]
  by_cases c1 : eff = 1 ∧ sd = 1
  · obtain ⟨h1, e1, R1⟩ := s_moil R (b := b) hv16
    refine ⟨h1, ?_, by rw [if_pos c1]; exact R1⟩
    obtain ⟨d1, d2⟩ := c1
    subst d1
    simp only [f_X7_vote_b54_body, g_st_5 R, rd_s, hn, if_neg (nI_ge hv (show n < 2 ^ 31 by omega)), c_ost R, hst, bd_s, if_true, if_pos d2, e1, f_X7_vote_b86, if_neg (show ¬ (1 : Int32) = 2 by decide), f_X7_vote_b115, if_neg (show ¬ (1 : Int32) = 3 by decide), f_X7_vote_b144, nI_1]
  have q1 : f_X7_vote_b54_body G k54 (z.2.2.2 (bst b)) (nI m) eff (nI v) h = f_X7_vote_b86 G k54 (z.2.2.2 (bst b)) (nI m) eff (nI v) sd h := by
    simp only [f_X7_vote_b54_body, g_st_5 R, rd_s, hn, if_neg (nI_ge hv (show n < 2 ^ 31 by omega)), c_ost R, hst, bd_s]
    by_cases c : eff = 1
    · rw [if_pos c, if_neg (fun q => c1 ⟨c, q⟩)]
    · rw [if_neg c]
  rw [q1, if_neg c1]
  by_cases c2 : eff = 2 ∧ sd = -1
  · obtain ⟨h1, e1, R1⟩ := s_set_8 R (b := b) hv16 (mxI (4 : Int32) (z.1 (gm b 2) v 8))
    refine ⟨h1, ?_, by rw [if_pos c2]; exact R1⟩
    obtain ⟨d1, d2⟩ := c2
    subst d1
    simp only [f_X7_vote_b86, if_true, if_pos d2, c_ost R, rd_s, s_of_8 R hv16, bd_s, e1, f_X7_vote_b115, if_neg (show ¬ (2 : Int32) = 3 by decide), f_X7_vote_b144, nI_1]
  have q2 : f_X7_vote_b86 G k54 (z.2.2.2 (bst b)) (nI m) eff (nI v) sd h = f_X7_vote_b115 G k54 (z.2.2.2 (bst b)) (nI m) eff (nI v) sd h := by
    unfold f_X7_vote_b86
    by_cases c : eff = 2
    · rw [if_pos c, if_neg (fun q => c2 ⟨c, q⟩)]
    · rw [if_neg c]
  rw [q2, if_neg c2]
  by_cases c3 : eff = 3
  · obtain ⟨h1, e1, R1⟩ := s_set_4 R (b := b) hv16 (mxI (0 : Int32) (mnI (9 : Int32) (z.1 (gm b 2) v 4 + sd)))
    refine ⟨h1, ?_, by rw [if_pos c3]; exact R1⟩
    simp only [f_X7_vote_b115, if_pos c3, c_ost R, rd_s, s_of_4 R hv16, bd_s, e1, f_X7_vote_b144, nI_1]
  · refine ⟨h, ?_, by rw [if_neg c3, uR_id]; exact R⟩
    simp only [f_X7_vote_b115, if_neg c3, f_X7_vote_b144, nI_1]
def efZ (b : Bool) (n m : Nat) (z : Zs) : Zs := uG z (gm b 2) (mapN n (gF z b m) (z.1 (gm b 2)))
theorem sl_eff {G : GE} {z : Zs} {b : Bool} {n m : Nat} (hn : z.1 (gm b 0) 0 5 = nI n) (h16 : n ≤ 16) (hm : m < 12) : ∀ d k fuel h, k + d = n → d < fuel → Rp G (uG z (gm b 2) (mapN k (gF z b m) (z.1 (gm b 2)))) h → ∃ h', f_X7_vote_b54 G fuel (z.2.2.2 (bst b)) (nI m) (z.1 (gm b 3) m 3) (nI k) h = some (1, h') ∧ Rp G (efZ b n m z) h' := by
  intro d
  induction d with
  | zero =>
    intro k fuel h hk hf R
    obtain ⟨fuel, rfl⟩ : ∃ q, fuel = q + 1 := ⟨fuel - 1, by omega⟩
    obtain rfl : k = n := by omega
    refine ⟨h, ?_, R⟩
    have g5 : gI 8 h (z.2.2.2 (bst b)) 5 = some (nI k) := by
      have := g_st_5 R (b := b)
      rw [uG_n _ _ (gm_ne b (by decide) (by decide) (by decide)), hn] at this
      exact this
    show f_X7_vote_b54_body G (f_X7_vote_b54 G fuel) (z.2.2.2 (bst b)) (nI m) (z.1 (gm b 3) m 3) (nI k) h = _
    simp only [f_X7_vote_b54_body, g5, rd_s, if_pos (Int32.le_refl _)]
  | succ d ih =>
    intro k fuel h hk hf R
    obtain ⟨fuel, rfl⟩ : ∃ q, fuel = q + 1 := ⟨fuel - 1, by omega⟩
    have hkn : k < n := by omega
    have hrow := uG_row z (gm b 2) k (gF z b m)
    have h0 : (uG z (gm b 2) (mapN k (gF z b m) (z.1 (gm b 2)))).1 (gm b 0) = z.1 (gm b 0) := uG_n _ _ (gm_ne b (by decide) (by decide) (by decide))
    have h3 : (uG z (gm b 2) (mapN k (gF z b m) (z.1 (gm b 2)))).1 (gm b 3) = z.1 (gm b 3) := uG_n _ _ (gm_ne b (by decide) (by decide) (by decide))
    obtain ⟨h1, e1, R1⟩ := s_eff1 R (b := b) (by rw [h0]; exact hn) h16 hm hkn (f_X7_vote_b54 G fuel)
    have hF : gF (uG z (gm b 2) (mapN k (gF z b m) (z.1 (gm b 2)))) b m k = gF z b m k := by
      show mEf (_ : Int32) _ _ = mEf _ _ _
      rw [hrow, h3]
    rw [hF, uG_mapN] at R1
    obtain ⟨h', e', R'⟩ := ih (k + 1) fuel h1 (by omega) (by omega) R1
    refine ⟨h', ?_, R'⟩
    rw [h3] at e1
    show f_X7_vote_b54_body G (f_X7_vote_b54 G fuel) (z.2.2.2 (bst b)) (nI m) (z.1 (gm b 3) m 3) (nI k) h = _
    rw [← e']
    exact e1
/-- a vote of the model's -/
def v1Z (b : Bool) (m : Nat) (z : Zs) : Zs := uI z (gm b 3) m 4 (z.1 (gm b 3) m 4 + 1)
def v2Z (b : Bool) (m : Nat) (z : Zs) : Zs := uR z (gm b 3) m (u1 (u1 (z.1 (gm b 3) m) 4 (z.1 (gm b 3) m 4 + 1)) 5 (z.1 (gm b 3) m 5 + 1))
def vW (b : Bool) (n m : Nat) (z : Zs) : Int32 := mWould (v1Z b m z) b m n
def voZ (b : Bool) (n m : Nat) (z : Zs) : Zs := if vW b n m z = 0 then v1Z b m z else efZ b n m (v2Z b m z)
theorem mWould_01 (z : Zs) (b : Bool) (m n : Nat) : mWould z b m n = 0 ∨ mWould z b m n = 1 := by
  unfold mWould
  split
  · exact Or.inl rfl
  · split
    · exact Or.inl rfl
    · exact Or.inr rfl
theorem s_vote {G : GE} {z : Zs} {h : PH} (R : Rp G z h) {b : Bool} {n m : Nat} (hn : z.1 (gm b 0) 0 5 = nI n) (h16 : n ≤ 16) (hm : m < 12) : ∃ h', f_X7_vote G (z.2.2.2 (bst b)) (nI m) h = some (vW b n m z, h') ∧ Rp G (voZ b n m z) h' := by
  have a4 := r_s4 R b (i := m) (k := 4) (by decide) hm
  obtain ⟨h1, e1, R1⟩ := w_s4 R b (i := m) (k := 4) (by decide) hm (z.1 (gm b 3) m 4 + 1)
  have h01 : (v1Z b m z).1 (gm b 0) = z.1 (gm b 0) := uG_n _ _ (gm_ne b (by decide) (by decide) (by decide))
  have hw : f_X7_would G (z.2.2.2 (bst b)) (nI m) h1 = some (vW b n m z, h1) := s_would (z := v1Z b m z) R1 (b := b) (by rw [h01]; exact hn) h16 hm
  have i4 : (6 : Int32) * nI m + (4 : Int32) = nI (6 * m + 4) := ix6 m 4
  have i5 : (6 : Int32) * nI m + (5 : Int32) = nI (6 * m + 5) := ix6 m 5
  have i3 : (6 : Int32) * nI m + (3 : Int32) = nI (6 * m + 3) := ix6 m 3
  have t8 : gR 8 h1 (z.2.2.2 (bst b)) 8 = some (z.2.2.2 (bsa b 4)) := g_st_8 (z := v1Z b m z) R1
  have i8 : isC 8 h1 (z.2.2.2 (bst b)) = some () := c_ost (z := v1Z b m z) R1
  by_cases c : vW b n m z = 0
  · refine ⟨h1, ?_, by rw [voZ, if_pos c]; exact R1⟩
    simp only [f_X7_vote, g_st_8 R, rd_s, i4, a4, e1, i8, hw, bd_s, if_pos c]
    rw [c]
  · have c1 : vW b n m z = 1 := (mWould_01 _ _ _ _).resolve_left c
    have a5 : aI h1 (z.2.2.2 (bsa b 4)) (nI (6 * m + 5)) = some (z.1 (gm b 3) m 5) := by
      have := r_s4 (z := v1Z b m z) R1 b (i := m) (k := 5) (by decide) hm
      rw [v1Z, uI_s] at this
      exact this
    obtain ⟨h2, e2, R2⟩ := w_s4 (z := v1Z b m z) R1 b (i := m) (k := 5) (by decide) hm (z.1 (gm b 3) m 5 + 1)
    have R2 : Rp G (v2Z b m z) h2 := by
      rw [v1Z, uI_eq z, uI_uR] at R2
      exact R2
    have e2 : aIs h1 (z.2.2.2 (bsa b 4)) (nI (6 * m + 5)) (z.1 (gm b 3) m 5 + 1) = some h2 := e2
    have a3 : aI h2 (z.2.2.2 (bsa b 4)) (nI (6 * m + 3)) = some ((v2Z b m z).1 (gm b 3) m 3) := r_s4 (z := v2Z b m z) R2 b (i := m) (k := 3) (by decide) hm
    have t8b : gR 8 h2 (z.2.2.2 (bst b)) 8 = some (z.2.2.2 (bsa b 4)) := g_st_8 (z := v2Z b m z) R2
    have h02 : (v2Z b m z).1 (gm b 0) = z.1 (gm b 0) := uG_n _ _ (gm_ne b (by decide) (by decide) (by decide))
    obtain ⟨h3, e3, R3⟩ := sl_eff (z := v2Z b m z) (b := b) (n := n) (m := m) (by rw [h02]; exact hn) h16 hm n 0 LF h2 (by omega) (by unfold LF; omega) (by rw [mapN_0, uG_id]; exact R2)
    have e3 : f_X7_vote_b54 G LF (z.2.2.2 (bst b)) (nI m) ((v2Z b m z).1 (gm b 3) m 3) 0 h2 = some (1, h3) := e3
    refine ⟨h3, ?_, by rw [voZ, if_neg c]; exact R3⟩
    simp only [f_X7_vote, g_st_8 R, rd_s, i4, a4, e1, i8, hw, bd_s, if_neg c, t8, i5, a5, e2, t8b, i3, a3, e3]
    rw [c1]
/-- the agenda gone through: votes, and what stays moved up -/
def cpZ (b : Bool) (l k : Nat) (z : Zs) : Zs := uR z (gm b 4) l (u1 (u1 (z.1 (gm b 4) l) 0 (z.1 (gm b 4) k 0)) 1 (z.1 (gm b 4) k 1))
def agZ (b : Bool) (n t : Nat) : Nat → Nat → Nat → Int32 → Zs → Zs × Nat × Int32
  | 0, _, l, x, z => (z, l, x)
  | d + 1, k, l, x, z => if z.1 (gm b 4) k 1 = nI t then agZ b n t d (k + 1) l (x + vW b n (z.1 (gm b 4) k 0).toNatClampNeg z) (voZ b n (z.1 (gm b 4) k 0).toNatClampNeg z) else agZ b n t d (k + 1) (l + 1) x (cpZ b l k z)
theorem voZ_n (b : Bool) (n m : Nat) (z : Zs) {g : Nat} (h2 : ¬ g = gm b 2) (h3 : ¬ g = gm b 3) : (voZ b n m z).1 g = z.1 g := by
  unfold voZ
  split
  · exact uG_n _ _ h3
  · exact (uG_n _ _ h2).trans (uG_n _ _ h3)
theorem voZ_2 (b : Bool) (n m : Nat) (z : Zs) : (voZ b n m z).2 = z.2 := by
  unfold voZ
  split <;> rfl
theorem MN.of {z z' : Zs} {b : Bool} {n W t : Nat} (M : MN z b n W t) (e : z'.1 (gm b 0) = z.1 (gm b 0)) : MN z' b n W t := by
  unfold MN
  rw [e]
  exact M
theorem s_cp {G : GE} {z : Zs} {h : PH} (R : Rp G z h) {b : Bool} {l k : Nat} (hl : l ≤ k) (hk : k < 20) (k6 : Nat → Int32 → Int32 → Int32 → PH → Option (Int32 × PH)) (x0 : Nat) (x1 : Int32) (hx : x0 = z.2.2.2 (bst b)) :
    ∃ h', (rd (gR 8 h x0 10) fun v5 => rd (gR 8 h x0 10) fun v6 => rd (aI h v6 ((2 : Int32) * nI k)) fun v7 => rd (aIs h v5 ((2 : Int32) * nI l) v7) fun h => rd (gR 8 h x0 10) fun v8 => rd (gR 8 h x0 10) fun v9 => rd (aI h v9 (((2 : Int32) * nI k) + (1 : Int32))) fun v10 => rd (aIs h v8 (((2 : Int32) * nI l) + (1 : Int32)) v10) fun h => f_X7_end_b88 G k6 x0 x1 (nI l + (1 : Int32)) (nI k) h) = k6 x0 x1 (nI (l + 1)) (nI (k + 1)) h' ∧ Rp G (cpZ b l k z) h' := by
  subst hx
  obtain ⟨h1, e1, R1⟩ := w_s5 R b (i := l) (k := 0) (by decide) (by omega) (z.1 (gm b 4) k 0)
  have a0 := r_s5 R b (i := k) (k := 0) (by decide) (by omega)
  have a1 : aI h1 (z.2.2.2 (bsa b 5)) (nI (2 * k + 1)) = some (z.1 (gm b 4) k 1) := by
    have := r_s5 R1 b (i := k) (k := 1) (by decide) (by omega)
    rw [show (uI z (gm b 4) l 0 (z.1 (gm b 4) k 0)).1 (gm b 4) k 1 = z.1 (gm b 4) k 1 from by
      by_cases e : k = l
      · subst e
        rw [uI_s]
        rfl
      · rw [uI_eq, uR_n _ _ (fun q => e q.2)]] at this
    exact this
  rw [uI_eq z] at R1
  obtain ⟨h2, e2, R2⟩ := w_s5 R1 b (i := l) (k := 1) (by decide) (by omega) (z.1 (gm b 4) k 1)
  have e2 : aIs h1 (z.2.2.2 (bsa b 5)) (nI (2 * l + 1)) (z.1 (gm b 4) k 1) = some h2 := e2
  rw [uI_uR] at R2
  refine ⟨h2, ?_, R2⟩
  have t10 : gR 8 h1 (z.2.2.2 (bst b)) 10 = some (z.2.2.2 (bsa b 5)) := by
    have := g_st_10 R1 (b := b)
    exact this
  have i1 : nI (2 * k + 0) + (1 : Int32) = nI (2 * k + 1) := nI_1 _
  have i2 : nI (2 * l + 0) + (1 : Int32) = nI (2 * l + 1) := nI_1 _
  simp only [g_st_10 R, rd_s, ix2_0, a0, e1, t10, i1, i2, a1, e2, f_X7_end_b88, nI_1]
def raM (b : Bool) (n w : Nat) (z : Zs) : Zs := if z.1 (gm b 1) 2 w = 0 then z else uG z (gm b 2) (mapN n (fun j => rRain (z.1 (gm b 2) j)) (z.1 (gm b 2)))
def hoZ (b : Bool) (t : Nat) (x : Int32) (z : Zs) : Zs := uR z (gm b 0) 0 (u1 (u1 (z.1 (gm b 0) 0) 0 (nI (t + 1))) 11 (z.1 (gm b 0) 0 11 + x))
theorem s_b175 {G : GE} {z : Zs} {h : PH} (R : Rp G z h) {b : Bool} {t : Nat} (ht : z.1 (gm b 0) 0 0 = nI t) (x : Int32) : ∃ h', f_X7_end_b175 G (z.2.2.2 (bst b)) x h = some (x, h') ∧ Rp G (hoZ b t x z) h' := by
  obtain ⟨h1, e1, R1⟩ := w_st_0 R (b := b) (nI (t + 1))
  rw [uI_eq z] at R1
  have g11 : gI 8 h1 (z.2.2.2 (bst b)) 11 = some (z.1 (gm b 0) 0 11) := by
    have := g_st_11 R1 (b := b)
    rw [uR_s] at this
    exact this
  obtain ⟨h2, e2, R2⟩ := w_st_11 R1 (b := b) (z.1 (gm b 0) 0 11 + x)
  have e2 : sF 8 h1 (z.2.2.2 (bst b)) 11 (.int (z.1 (gm b 0) 0 11 + x)) = some h2 := e2
  rw [uI_uR] at R2
  refine ⟨h2, ?_, R2⟩
  simp only [f_X7_end_b175, g_st_0 R, rd_s, ht, nI_1, e1, g11, e2]
