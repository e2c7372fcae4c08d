/-! ===== the model's state, written ===== -/
theorem mLe_c {z z' : Zs} {b : Bool} (hc : ∀ u k, k < 3 → z'.1 (gm b 2) u k = z.1 (gm b 2) u k) (v : Nat) (dx dy : Int32) (n : Nat) : mLe z' b v dx dy n = mLe z b v dx dy n := by
  have e : ∀ s, mT z' b v dx dy s = mT z b v dx dy s := by
    intro s
    funext u
    unfold mT
    rw [hc u 0 (by decide), hc v 0 (by decide), hc u 1 (by decide), hc v 1 (by decide), hc u 2 (by decide), hc v 2 (by decide)]
  unfold mLe
  rw [e, e, e]
theorem mWind_c {z z' : Zs} {b : Bool} (hc : ∀ u k, k < 3 → z'.1 (gm b 2) u k = z.1 (gm b 2) u k) (hw : z'.1 (gm b 1) = z.1 (gm b 1)) (v n w : Nat) : mWind z' b v n w = mWind z b v n w := by
  unfold mWind mLee
  rw [hw, mLe_c hc]
theorem gm_ne (b : Bool) {i j : Nat} (hi : i < 10) (hj : j < 10) (h : ¬ i = j) : ¬ gm b i = gm b j := fun e => h (gm_in hi hj e).2
def rem16 (x : Int32) : Int32 := x - x / (16 : Int32) * (16 : Int32)
def mSp (spin wt d wind rust : Int32) : Int32 := (fun s0 => if s0 = 0 then kSig d else s0) (mxI (-8 : Int32) (mnI (8 : Int32) (((spin * wt) + (d * wind)) / ((wt + (4 : Int32)) + rust))))
def mRow (wind dir : Int32) (r : Nat → Int32) : Nat → Int32 :=
  if 0 < r 8 then u1 (u1 r 8 (mxI (0 : Int32) (r 8 - (1 : Int32)))) 7 0 else if r 5 < wind then u1 (u1 r 7 (mSp (r 7) (r 3) (kApart (r 6) dir) wind (r 5))) 6 (rem16 ((r 6 + mSp (r 7) (r 3) (kApart (r 6) dir) wind (r 5)) + (16 : Int32))) else u1 (u1 r 8 (mxI (0 : Int32) (r 8 - (1 : Int32)))) 7 0
theorem mRow_c (wind dir : Int32) (r : Nat → Int32) {k : Nat} (hk : k < 4) : mRow wind dir r k = r k := by
  have h8 : ¬ k = 8 := by omega
  have h7 : ¬ k = 7 := by omega
  have h6 : ¬ k = 6 := by omega
  unfold mRow
  split
  · rw [u1_n _ _ h7, u1_n _ _ h8]
  · split
    · rw [u1_n _ _ h6, u1_n _ _ h7]
    · rw [u1_n _ _ h7, u1_n _ _ h8]
def tF (z : Zs) (b : Bool) (n w j : Nat) : Nat → Int32 := mRow (mWind z b j n w) (z.1 (gm b 1) 0 w) (z.1 (gm b 2) j)
theorem tF_c {z z' : Zs} {b : Bool} {n w k : Nat} (hc : ∀ u c, c < 3 → z'.1 (gm b 2) u c = z.1 (gm b 2) u c) (hw : z'.1 (gm b 1) = z.1 (gm b 1)) (hr : z'.1 (gm b 2) k = z.1 (gm b 2) k) : tF z' b n w k = tF z b n w k := by
  unfold tF
  rw [hr, hw, mWind_c hc hw]
theorem mapN_c {n k : Nat} {F f : Nat → Nat → Int32} (h : ∀ j c, c < 4 → F j c = f j c) : ∀ j c, c < 4 → mapN k F f j c = f j c := by
  intro j c hc
  unfold mapN
  by_cases e : j < k
  · rw [if_pos e]
    exact h j c hc
  · rw [if_neg e]
theorem s_setR {G : GE} {z : Zs} {h : PH} {b : Bool} {v : Nat} {r : Nat → Int32} (R : Rp G (uR z (gm b 2) v r) h) (hv : v < 16) : True := trivial
theorem s_setr_4 {G : GE} {z : Zs} {h : PH} {b : Bool} {v : Nat} {r : Nat → Int32} (R : Rp G (uR z (gm b 2) v r) h) (hv : v < 16) (x : Int32) : ∃ h', f_X7_set G (z.2.2.2 (bst b)) (nI v) (4 : Int32) x h = some ((), h') ∧ Rp G (uR z (gm b 2) v (u1 r 4 x)) h' := by
  obtain ⟨h', e, R'⟩ := s_set_4 R (b := b) hv x
  rw [uI_uR] at R'
  exact ⟨h', e, R'⟩
theorem s_ofr_4 {G : GE} {z : Zs} {h : PH} {b : Bool} {v : Nat} {r : Nat → Int32} (R : Rp G (uR z (gm b 2) v r) h) (hv : v < 16) : f_X7_of G (z.2.2.2 (bst b)) (nI v) (4 : Int32) h = some (r 4, h) := by
  have := s_of_4 R (b := b) hv
  rw [uR_s] at this
  exact this
theorem s_setr_5 {G : GE} {z : Zs} {h : PH} {b : Bool} {v : Nat} {r : Nat → Int32} (R : Rp G (uR z (gm b 2) v r) h) (hv : v < 16) (x : Int32) : ∃ h', f_X7_set G (z.2.2.2 (bst b)) (nI v) (5 : Int32) x h = some ((), h') ∧ Rp G (uR z (gm b 2) v (u1 r 5 x)) h' := by
  obtain ⟨h', e, R'⟩ := s_set_5 R (b := b) hv x
  rw [uI_uR] at R'
  exact ⟨h', e, R'⟩
theorem s_ofr_5 {G : GE} {z : Zs} {h : PH} {b : Bool} {v : Nat} {r : Nat → Int32} (R : Rp G (uR z (gm b 2) v r) h) (hv : v < 16) : f_X7_of G (z.2.2.2 (bst b)) (nI v) (5 : Int32) h = some (r 5, h) := by
  have := s_of_5 R (b := b) hv
  rw [uR_s] at this
  exact this
theorem s_setr_6 {G : GE} {z : Zs} {h : PH} {b : Bool} {v : Nat} {r : Nat → Int32} (R : Rp G (uR z (gm b 2) v r) h) (hv : v < 16) (x : Int32) : ∃ h', f_X7_set G (z.2.2.2 (bst b)) (nI v) (6 : Int32) x h = some ((), h') ∧ Rp G (uR z (gm b 2) v (u1 r 6 x)) h' := by
  obtain ⟨h', e, R'⟩ := s_set_6 R (b := b) hv x
  rw [uI_uR] at R'
  exact ⟨h', e, R'⟩
theorem s_ofr_6 {G : GE} {z : Zs} {h : PH} {b : Bool} {v : Nat} {r : Nat → Int32} (R : Rp G (uR z (gm b 2) v r) h) (hv : v < 16) : f_X7_of G (z.2.2.2 (bst b)) (nI v) (6 : Int32) h = some (r 6, h) := by
  have := s_of_6 R (b := b) hv
  rw [uR_s] at this
  exact this
theorem s_setr_7 {G : GE} {z : Zs} {h : PH} {b : Bool} {v : Nat} {r : Nat → Int32} (R : Rp G (uR z (gm b 2) v r) h) (hv : v < 16) (x : Int32) : ∃ h', f_X7_set G (z.2.2.2 (bst b)) (nI v) (7 : Int32) x h = some ((), h') ∧ Rp G (uR z (gm b 2) v (u1 r 7 x)) h' := by
  obtain ⟨h', e, R'⟩ := s_set_7 R (b := b) hv x
  rw [uI_uR] at R'
  exact ⟨h', e, R'⟩
theorem s_ofr_7 {G : GE} {z : Zs} {h : PH} {b : Bool} {v : Nat} {r : Nat → Int32} (R : Rp G (uR z (gm b 2) v r) h) (hv : v < 16) : f_X7_of G (z.2.2.2 (bst b)) (nI v) (7 : Int32) h = some (r 7, h) := by
  have := s_of_7 R (b := b) hv
  rw [uR_s] at this
  exact this
theorem s_setr_8 {G : GE} {z : Zs} {h : PH} {b : Bool} {v : Nat} {r : Nat → Int32} (R : Rp G (uR z (gm b 2) v r) h) (hv : v < 16) (x : Int32) : ∃ h', f_X7_set G (z.2.2.2 (bst b)) (nI v) (8 : Int32) x h = some ((), h') ∧ Rp G (uR z (gm b 2) v (u1 r 8 x)) h' := by
  obtain ⟨h', e, R'⟩ := s_set_8 R (b := b) hv x
  rw [uI_uR] at R'
  exact ⟨h', e, R'⟩
theorem s_ofr_8 {G : GE} {z : Zs} {h : PH} {b : Bool} {v : Nat} {r : Nat → Int32} (R : Rp G (uR z (gm b 2) v r) h) (hv : v < 16) : f_X7_of G (z.2.2.2 (bst b)) (nI v) (8 : Int32) h = some (r 8, h) := by
  have := s_of_8 R (b := b) hv
  rw [uR_s] at this
  exact this
theorem s_setr_9 {G : GE} {z : Zs} {h : PH} {b : Bool} {v : Nat} {r : Nat → Int32} (R : Rp G (uR z (gm b 2) v r) h) (hv : v < 16) (x : Int32) : ∃ h', f_X7_set G (z.2.2.2 (bst b)) (nI v) (9 : Int32) x h = some ((), h') ∧ Rp G (uR z (gm b 2) v (u1 r 9 x)) h' := by
  obtain ⟨h', e, R'⟩ := s_set_9 R (b := b) hv x
  rw [uI_uR] at R'
  exact ⟨h', e, R'⟩
theorem s_ofr_9 {G : GE} {z : Zs} {h : PH} {b : Bool} {v : Nat} {r : Nat → Int32} (R : Rp G (uR z (gm b 2) v r) h) (hv : v < 16) : f_X7_of G (z.2.2.2 (bst b)) (nI v) (9 : Int32) h = some (r 9, h) := by
  have := s_of_9 R (b := b) hv
  rw [uR_s] at this
  exact this
theorem ostr {G : GE} {z : Zs} {h : PH} {b : Bool} {g v : Nat} {r : Nat → Int32} (R : Rp G (uR z g v r) h) : isC 8 h (z.2.2.2 (bst b)) = some () := c_ost R
theorem s_moil {G : GE} {z : Zs} {h : PH} (R : Rp G z h) {b : Bool} {v : Nat} (hv : v < 16) : ∃ h', f_X7_oil G (z.2.2.2 (bst b)) (nI v) h = some ((), h') ∧ Rp G (uR z (gm b 2) v (rOil (z.1 (gm b 2) v))) h' := by
  obtain ⟨h1, e1, R1⟩ := s_set_5 R (b := b) hv 0
  rw [uI_eq z] at R1
  obtain ⟨h2, e2, R2⟩ := s_setr_9 R1 hv 0
  refine ⟨h2, ?_, R2⟩
  rw [f_X7_oil, c_ost R, rd_s, e1, bd_s, ostr R1, rd_s, e2, bd_s]
/-- one vane turned -/
theorem s_turn1 {G : GE} {z : Zs} {h : PH} (R : Rp G z h) {b : Bool} {n W t : Nat} (M : MN z b n W t) {v : Nat} (hv : v < n) (hq : ¬ ((z.1 (gm b 2) v 3 + (4 : Int32)) + z.1 (gm b 2) v 5) = 0) (k2 : Nat → Int32 → PH → Option (Unit × PH)) :
    ∃ h', f_X7_turn_b2_body G k2 (z.2.2.2 (bst b)) (nI v) h = k2 (z.2.2.2 (bst b)) (nI (v + 1)) h' ∧ Rp G (uR z (gm b 2) v (tF z b n (t % W) v)) h' := by
  have h16 := M.2.1
  have hv16 : v < 16 := by omega
  have hbA : ∃ h', f_X7_turn_b36 G k2 (z.2.2.2 (bst b)) (nI v) h = k2 (z.2.2.2 (bst b)) (nI (v + 1)) h' ∧ Rp G (uR z (gm b 2) v (u1 (u1 (z.1 (gm b 2) v) 8 (mxI (0 : Int32) (z.1 (gm b 2) v 8 - (1 : Int32)))) 7 0)) h' := by
    obtain ⟨h1, e1, R1⟩ := s_set_8 R (b := b) hv16 (mxI (0 : Int32) (z.1 (gm b 2) v 8 - (1 : Int32)))
    rw [uI_eq z] at R1
    obtain ⟨h2, e2, R2⟩ := s_setr_7 R1 hv16 0
    refine ⟨h2, ?_, R2⟩
    simp only [f_X7_turn_b36, c_ost R, rd_s, s_of_8 R hv16, bd_s, e1, ostr R1, e2, f_X7_turn_b180, nI_1]
  by_cases c1 : 0 < z.1 (gm b 2) v 8
  · obtain ⟨h', e', R'⟩ := hbA
    refine ⟨h', ?_, by rw [tF, mRow, if_pos c1]; exact R'⟩
    simp only [f_X7_turn_b2_body, g_st_5 R, rd_s, M.1, if_neg (nI_ge hv (show n < 2 ^ 31 by omega)), c_ost R, s_mwind R M hv16, bd_s, s_of_8 R hv16, if_pos c1, e']
  · by_cases c2 : z.1 (gm b 2) v 5 < mWind z b v n (t % W)
    · obtain ⟨h1, e1, R1⟩ := s_set_7 R (b := b) hv16 (mSp (z.1 (gm b 2) v 7) (z.1 (gm b 2) v 3) (kApart (z.1 (gm b 2) v 6) (z.1 (gm b 1) 0 (t % W))) (mWind z b v n (t % W)) (z.1 (gm b 2) v 5))
      rw [uI_eq z] at R1
      obtain ⟨h2, e2, R2⟩ := s_setr_6 R1 hv16 (rem16 ((z.1 (gm b 2) v 6 + mSp (z.1 (gm b 2) v 7) (z.1 (gm b 2) v 3) (kApart (z.1 (gm b 2) v 6) (z.1 (gm b 1) 0 (t % W))) (mWind z b v n (t % W)) (z.1 (gm b 2) v 5)) + (16 : Int32)))
      refine ⟨h2, ?_, by rw [tF, mRow, if_neg c1, if_pos c2]; exact R2⟩
      have o6 : f_X7_of G (z.2.2.2 (bst b)) (nI v) (6 : Int32) h1 = some (z.1 (gm b 2) v 6, h1) := by
        have := s_ofr_6 R1 hv16
        exact this
      unfold rem16 at e2
      have hb : ∀ x4, x4 = mSp (z.1 (gm b 2) v 7) (z.1 (gm b 2) v 3) (kApart (z.1 (gm b 2) v 6) (z.1 (gm b 1) 0 (t % W))) (mWind z b v n (t % W)) (z.1 (gm b 2) v 5) → f_X7_turn_b148 G k2 (z.2.2.2 (bst b)) (nI v) x4 h = k2 (z.2.2.2 (bst b)) (nI (v + 1)) h2 := by
        intro x4 hx
        subst hx
        simp only [f_X7_turn_b148, c_ost R, rd_s, e1, bd_s, ostr R1, o6, f_X7_turn_b180, nI_1, e2]
      simp only [f_X7_turn_b2_body, g_st_5 R, rd_s, M.1, if_neg (nI_ge hv (show n < 2 ^ 31 by omega)), c_ost R, s_mwind R M hv16, bd_s, s_of_8 R hv16, if_neg c1, s_of_5 R hv16, if_pos c2, s_of_6 R hv16, g_st_2 R, s_entry R M, r_s0 R b M.w, s_apart, s_of_7 R hv16, s_of_3 R hv16, nz, if_neg hq, f_J6_signum_0f7a4]
      by_cases c3 : mxI (-8 : Int32) (mnI (8 : Int32) (((z.1 (gm b 2) v 7 * z.1 (gm b 2) v 3) + (kApart (z.1 (gm b 2) v 6) (z.1 (gm b 1) 0 (t % W)) * mWind z b v n (t % W))) / ((z.1 (gm b 2) v 3 + (4 : Int32)) + z.1 (gm b 2) v 5))) = 0
      · rw [if_pos c3]
        refine hb _ ?_
        unfold mSp
        simp only [c3, if_true]
        rfl
      · rw [if_neg c3]
        refine hb _ ?_
        unfold mSp
        simp only [if_neg c3]
    · obtain ⟨h', e', R'⟩ := hbA
      refine ⟨h', ?_, by rw [tF, mRow, if_neg c1, if_neg c2]; exact R'⟩
      simp only [f_X7_turn_b2_body, g_st_5 R, rd_s, M.1, if_neg (nI_ge hv (show n < 2 ^ 31 by omega)), c_ost R, s_mwind R M hv16, bd_s, s_of_8 R hv16, if_neg c1, s_of_5 R hv16, if_neg c2, e']
theorem MN.uv {z : Zs} {b : Bool} {n W t : Nat} (M : MN z b n W t) (F : Nat → Nat → Int32) : MN (uG z (gm b 2) F) b n W t := by
  have e : (uG z (gm b 2) F).1 (gm b 0) = z.1 (gm b 0) := uG_n _ _ (gm_ne b (by decide) (by decide) (by decide))
  unfold MN
  rw [e]
  exact M
theorem sl_turn {G : GE} {z : Zs} {b : Bool} {n W t : Nat} (M : MN z b n W t) (hq : ∀ v, v < n → ¬ ((z.1 (gm b 2) v 3 + (4 : Int32)) + z.1 (gm b 2) v 5) = 0) : ∀ d k fuel h, k + d = n → d < fuel → Rp G (uG z (gm b 2) (mapN k (tF z b n (t % W)) (z.1 (gm b 2)))) h → ∃ h', f_X7_turn_b2 G fuel (z.2.2.2 (bst b)) (nI k) h = some ((), h') ∧ Rp G (uG z (gm b 2) (mapN n (tF z b n (t % W)) (z.1 (gm b 2)))) h' := by
  intro d
  induction d with
  | zero =>
    intro k fuel h hk hf R
    obtain ⟨fuel, rfl⟩ : ∃ q, fuel = q + 1 := ⟨fuel - 1, by omega⟩
    obtain rfl : k = n := by omega
    refine ⟨h, ?_, R⟩
    have M' := M.uv (mapN k (tF z b k (t % W)) (z.1 (gm b 2)))
    have g5 : gI 8 h (z.2.2.2 (bst b)) 5 = some (nI k) := by
      have := g_st_5 R (b := b)
      rw [M'.1] at this
      exact this
    show f_X7_turn_b2_body G (f_X7_turn_b2 G fuel) (z.2.2.2 (bst b)) (nI k) h = _
    simp only [f_X7_turn_b2_body, g5, rd_s, if_pos (Int32.le_refl _)]
  | succ d ih =>
    intro k fuel h hk hf R
    obtain ⟨fuel, rfl⟩ : ∃ q, fuel = q + 1 := ⟨fuel - 1, by omega⟩
    have hkn : k < n := by omega
    have M' := M.uv (mapN k (tF z b n (t % W)) (z.1 (gm b 2)))
    have hrow := uG_row z (gm b 2) k (tF z b n (t % W))
    have hcol : ∀ u c, c < 4 → (uG z (gm b 2) (mapN k (tF z b n (t % W)) (z.1 (gm b 2)))).1 (gm b 2) u c = z.1 (gm b 2) u c := by
      rw [uG_s]
      exact mapN_c (n := n) (fun j c hc => mRow_c _ _ _ hc)
    have hw1 : (uG z (gm b 2) (mapN k (tF z b n (t % W)) (z.1 (gm b 2)))).1 (gm b 1) = z.1 (gm b 1) := uG_n _ _ (gm_ne b (by decide) (by decide) (by decide))
    obtain ⟨h1, e1, R1⟩ := s_turn1 R M' hkn (by rw [hrow]; exact hq k hkn) (f_X7_turn_b2 G fuel)
    have hF : tF (uG z (gm b 2) (mapN k (tF z b n (t % W)) (z.1 (gm b 2)))) b n (t % W) k = tF z b n (t % W) k := by
      exact tF_c (fun u c hc => hcol u c (by omega)) hw1 hrow
    rw [hF, uG_mapN] at R1
    obtain ⟨h', e', R'⟩ := ih (k + 1) fuel h1 (by omega) (by omega) R1
    refine ⟨h', ?_, R'⟩
    show f_X7_turn_b2_body G (f_X7_turn_b2 G fuel) (z.2.2.2 (bst b)) (nI k) h = _
    rw [← e']
    exact e1
def tuS (b : Bool) (n w : Nat) (z : Zs) : Zs := uG z (gm b 2) (mapN n (tF z b n w) (z.1 (gm b 2)))
theorem s_mturn {G : GE} {z : Zs} {h : PH} (R : Rp G z h) {b : Bool} {n W t : Nat} (M : MN z b n W t) (hq : ∀ v, v < n → ¬ ((z.1 (gm b 2) v 3 + (4 : Int32)) + z.1 (gm b 2) v 5) = 0) : ∃ h', f_X7_turn G (z.2.2.2 (bst b)) h = some ((), h') ∧ Rp G (tuS b n (t % W) z) h' :=
  sl_turn M hq n 0 LF h (by omega) (by have := M.2.1; unfold LF; omega) (by rw [mapN_0, uG_id]; exact R)
