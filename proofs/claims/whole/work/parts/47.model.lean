/-! ===== the model's state, read ===== -/
def MN (z : Zs) (b : Bool) (n W t : Nat) : Prop := z.1 (gm b 0) 0 5 = nI n ∧ n ≤ 16 ∧ z.1 (gm b 0) 0 1 = nI W ∧ 1 ≤ W ∧ W ≤ 24 ∧ z.1 (gm b 0) 0 0 = nI t ∧ t < 2 ^ 31
theorem s_entry {G : GE} {z : Zs} {h : PH} (R : Rp G z h) {b : Bool} {n W t : Nat} (M : MN z b n W t) : f_X7_entry G (z.2.2.2 (bst b)) h = some (nI (t % W), h) := by
  obtain ⟨-, -, h3, h4, h5, h6, h7⟩ := M
  rw [f_X7_entry, g_st_0 R, rd_s, g_st_1 R, rd_s, h3, h6, nz, if_neg (nI_ne0 h4 (by omega)), nI_rem h7 h4 (by omega)]
theorem MN.w {z : Zs} {b : Bool} {n W t : Nat} (M : MN z b n W t) : t % W < 24 := by
  have := Nat.mod_lt t (show 0 < W from M.2.2.2.1)
  have := M.2.2.2.2.1
  omega
def kApart (a b : Int32) : Int32 := if (((b - a) + (16 : Int32)) - ((b - a) + (16 : Int32)) / (16 : Int32) * (16 : Int32)) ≤ (8 : Int32) then (((b - a) + (16 : Int32)) - ((b - a) + (16 : Int32)) / (16 : Int32) * (16 : Int32)) else ((((b - a) + (16 : Int32)) - ((b - a) + (16 : Int32)) / (16 : Int32) * (16 : Int32)) - (16 : Int32))
theorem s_apart {G : GE} {h : PH} (a b : Int32) : f_X8_apart G a b h = some (kApart a b, h) := by
  unfold f_X8_apart kApart
  simp only [f_X8_apart_b24, ite_sm]
def mT (z : Zs) (b : Bool) (v : Nat) (dx dy s : Int32) (u : Nat) : Int32 :=
  if z.1 (gm b 2) u 0 = z.1 (gm b 2) v 0 + (s * dx) then (if z.1 (gm b 2) u 1 = z.1 (gm b 2) v 1 + (s * dy) then (if z.1 (gm b 2) u 2 ≤ z.1 (gm b 2) v 2 then 0 else 1) else 0) else 0
theorem sl_lee1 {G : GE} {z : Zs} {h : PH} (R : Rp G z h) {b : Bool} {n W t : Nat} (M : MN z b n W t) {v : Nat} (hv : v < 16) (dx dy s a0 : Int32) (k86 : Nat → Int32 → Int32 → Int32 → Int32 → Int32 → PH → Option (Int32 × PH)) : ∀ d k fuel, k + d = n → d < fuel → f_X7_lee_b95 G k86 fuel (z.2.2.2 (bst b)) (nI v) dx dy (a0 + sumV (mT z b v dx dy s) k) s (nI k) h = k86 (z.2.2.2 (bst b)) (nI v) dx dy (a0 + sumV (mT z b v dx dy s) n) (s + 1) h := by
  intro d
  induction d with
  | zero =>
    intro k fuel hk hf
    obtain ⟨fuel, rfl⟩ : ∃ q, fuel = q + 1 := ⟨fuel - 1, by omega⟩
    obtain rfl : k = n := by omega
    show f_X7_lee_b95_body G k86 (f_X7_lee_b95 G k86 fuel) (z.2.2.2 (bst b)) (nI v) dx dy (a0 + sumV (mT z b v dx dy s) k) s (nI k) h = _
    simp only [f_X7_lee_b95_body, g_st_5 R, rd_s, M.1, if_pos (Int32.le_refl _)]
  | succ d ih =>
    intro k fuel hk hf
    obtain ⟨fuel, rfl⟩ : ∃ q, fuel = q + 1 := ⟨fuel - 1, by omega⟩
    have hkn : k < n := by omega
    have h16 := M.2.1
    have hk16 : k < 16 := by omega
    have ih := ih (k + 1) fuel (by omega) (by omega)
    rw [← ih]
    show f_X7_lee_b95_body G k86 (f_X7_lee_b95 G k86 fuel) (z.2.2.2 (bst b)) (nI v) dx dy (a0 + sumV (mT z b v dx dy s) k) s (nI k) h = _
    simp only [f_X7_lee_b95_body, g_st_5 R, rd_s, M.1, if_neg (nI_ge hkn (show n < 2 ^ 31 by omega)), c_ost R, s_of_0 R hk16, s_of_0 R hv, s_of_1 R hk16, s_of_1 R hv, s_of_2 R hk16, s_of_2 R hv, bd_s, f_X7_lee_b169, f_X7_lee_b170, nI_1]
    rw [show sumV (mT z b v dx dy s) (k + 1) = sumV (mT z b v dx dy s) k + mT z b v dx dy s k from rfl, ← Int32.add_assoc]
    unfold mT
    by_cases c1 : z.1 (gm b 2) k 0 = z.1 (gm b 2) v 0 + s * dx
    · rw [if_pos c1, if_pos c1]
      by_cases c2 : z.1 (gm b 2) k 1 = z.1 (gm b 2) v 1 + s * dy
      · rw [if_pos c2, if_pos c2]
        by_cases c3 : z.1 (gm b 2) k 2 ≤ z.1 (gm b 2) v 2
        · rw [if_pos c3, if_pos c3]
        · rw [if_neg c3, if_neg c3]
      · rw [if_neg c2, if_neg c2]
    · rw [if_neg c1, if_neg c1]
def mLe (z : Zs) (b : Bool) (v : Nat) (dx dy : Int32) (n : Nat) : Int32 := (((0 : Int32) + sumV (mT z b v dx dy 1) n) + sumV (mT z b v dx dy 2) n) + sumV (mT z b v dx dy 3) n
theorem sl_lee {G : GE} {z : Zs} {h : PH} (R : Rp G z h) {b : Bool} {n W t : Nat} (M : MN z b n W t) {v : Nat} (hv : v < 16) (dx dy : Int32) : f_X7_lee_b78 G (z.2.2.2 (bst b)) (nI v) dx dy h = some (mLe z b v dx dy n, h) := by
  have h16 := M.2.1
  have step : ∀ (s a0 : Int32) (F : Nat), ¬ (4 : Int32) ≤ s → f_X7_lee_b86 G (F + 1) (z.2.2.2 (bst b)) (nI v) dx dy a0 s h = f_X7_lee_b86 G F (z.2.2.2 (bst b)) (nI v) dx dy (a0 + sumV (mT z b v dx dy s) n) (s + 1) h := by
    intro s a0 F hs
    show f_X7_lee_b86_body G (f_X7_lee_b86 G F) (z.2.2.2 (bst b)) (nI v) dx dy a0 s h = _
    rw [f_X7_lee_b86_body, if_neg hs]
    have := sl_lee1 R M hv dx dy s a0 (f_X7_lee_b86 G F) n 0 LF (by omega) (by unfold LF; omega)
    rw [show sumV (mT z b v dx dy s) 0 = 0 from rfl, Int32.add_zero] at this
    exact this
  have fin : ∀ (s a0 : Int32) (F : Nat), (4 : Int32) ≤ s → f_X7_lee_b86 G (F + 1) (z.2.2.2 (bst b)) (nI v) dx dy a0 s h = some (a0, h) := by
    intro s a0 F hs
    show f_X7_lee_b86_body G (f_X7_lee_b86 G F) (z.2.2.2 (bst b)) (nI v) dx dy a0 s h = _
    rw [f_X7_lee_b86_body, if_pos hs]
  rw [f_X7_lee_b78, show LF = 99999 + 1 from rfl, step 1 0 99999 (by decide), show (99999 : Nat) = 99998 + 1 from rfl, step (1 + 1) _ 99998 (by decide), show (99998 : Nat) = 99997 + 1 from rfl, step (1 + 1 + 1) _ 99997 (by decide), show (99997 : Nat) = 99996 + 1 from rfl]
  rw [fin (1 + 1 + 1 + 1) _ 99996 (by decide)]
  rfl
def dxE (e : Int32) : Int32 := if e = 0 then 0 else if e = (4 : Int32) then 0 else if (4 : Int32) ≤ e then -1 else 1
def dyE (e : Int32) : Int32 := if e = (2 : Int32) then 0 else if e = (6 : Int32) then 0 else if e ≤ (2 : Int32) then -1 else if (6 : Int32) ≤ e then -1 else 1
def mLee (z : Zs) (b : Bool) (v n w : Nat) : Int32 := mLe z b v (dxE (kEighth (z.1 (gm b 1) 0 w))) (dyE (kEighth (z.1 (gm b 1) 0 w))) n
theorem s_lee {G : GE} {z : Zs} {h : PH} (R : Rp G z h) {b : Bool} {n W t : Nat} (M : MN z b n W t) {v : Nat} (hv : v < 16) : f_X7_lee G (z.2.2.2 (bst b)) (nI v) h = some (mLee z b v n (t % W), h) := by
  have h46 : ∀ e dx : Int32, f_X7_lee_b46 G (z.2.2.2 (bst b)) (nI v) e dx h = some (mLe z b v dx (dyE e) n, h) := by
    intro e dx
    unfold f_X7_lee_b46 dyE
    simp only [f_X7_lee_b58, f_X7_lee_b77, sl_lee R M hv]
    by_cases c1 : e = (2 : Int32)
    · rw [if_pos c1, if_pos c1]
    · rw [if_neg c1, if_neg c1]
      by_cases c2 : e = (6 : Int32)
      · rw [if_pos c2, if_pos c2]
      · rw [if_neg c2, if_neg c2]
        by_cases c3 : e ≤ (2 : Int32)
        · rw [if_pos c3, if_pos c3]
        · rw [if_neg c3, if_neg c3]
          by_cases c4 : (6 : Int32) ≤ e
          · rw [if_pos c4, if_pos c4]
          · rw [if_neg c4, if_neg c4]
  have hF : ∀ e : Int32, (if e = 0 then f_X7_lee_b32 G (z.2.2.2 (bst b)) (nI v) e h else if e = (4 : Int32) then f_X7_lee_b32 G (z.2.2.2 (bst b)) (nI v) e h else if (4 : Int32) ≤ e then f_X7_lee_b46 G (z.2.2.2 (bst b)) (nI v) e (-1) h else f_X7_lee_b46 G (z.2.2.2 (bst b)) (nI v) e 1 h) = some (mLe z b v (dxE e) (dyE e) n, h) := by
    intro e
    unfold dxE
    simp only [f_X7_lee_b32, h46]
    by_cases c1 : e = 0
    · rw [if_pos c1, if_pos c1]
    · rw [if_neg c1, if_neg c1]
      by_cases c2 : e = (4 : Int32)
      · rw [if_pos c2, if_pos c2]
      · rw [if_neg c2, if_neg c2]
        by_cases c3 : (4 : Int32) ≤ e
        · rw [if_pos c3, if_pos c3]
        · rw [if_neg c3, if_neg c3]
  rw [f_X7_lee, g_st_2 R, rd_s, c_ost R, rd_s, s_entry R M, bd_s, r_s0 R b M.w, rd_s]
  exact hF (kEighth (z.1 (gm b 1) 0 (t % W)))
def mWind (z : Zs) (b : Bool) (v n w : Nat) : Int32 := mxI (0 : Int32) (z.1 (gm b 1) 1 w - (2 : Int32) * mLee z b v n w)
theorem s_mwind {G : GE} {z : Zs} {h : PH} (R : Rp G z h) {b : Bool} {n W t : Nat} (M : MN z b n W t) {v : Nat} (hv : v < 16) : f_X7_windAt G (z.2.2.2 (bst b)) (nI v) h = some (mWind z b v n (t % W), h) := by
  rw [f_X7_windAt, g_st_3 R, rd_s, c_ost R, rd_s, s_entry R M, bd_s, r_s1 R b M.w, rd_s, c_ost R, rd_s, s_lee R M hv, bd_s]
  rfl
def mSide (dir spread d : Int32) : Int32 := if spread < abI (kApart d dir) then (if abI (kApart d dir) < (8 : Int32) - spread / (2 : Int32) then 0 else -1) else 1
theorem ix6_0 (m : Nat) : (6 : Int32) * nI m = nI (6 * m + 0) := pk_mul 6 m
theorem ix6 (m k : Nat) : (6 : Int32) * nI m + nI k = nI (6 * m + k) := nI_ix 6 m k
theorem ix2_0 (m : Nat) : (2 : Int32) * nI m = nI (2 * m + 0) := pk_mul 2 m
theorem ix2_1 (m : Nat) : (2 : Int32) * nI m + (1 : Int32) = nI (2 * m + 1) := nI_ix 2 m 1
theorem s_mstand {G : GE} {z : Zs} {h : PH} (R : Rp G z h) {b : Bool} {m v : Nat} (hm : m < 12) (hv : v < 16) : f_X7_stand G (z.2.2.2 (bst b)) (nI m) (nI v) h = some (mSide (z.1 (gm b 3) m 0) (z.1 (gm b 3) m 1) (z.1 (gm b 2) v 6), h) := by
  have a0 := r_s4 R b (i := m) (k := 0) (by decide) hm
  have a1 := r_s4 R b (i := m) (k := 1) (by decide) hm
  simp only [f_X7_stand, c_ost R, rd_s, s_of_6 R hv, bd_s, g_st_8 R, ix6_0, show nI (6 * m + 0) + (1 : Int32) = nI (6 * m + 1) from nI_1 _, a0, a1, s_apart, f_X7_stand_b62, ite_sm]
  unfold mSide
  by_cases c : z.1 (gm b 3) m 1 < abI (kApart (z.1 (gm b 2) v 6) (z.1 (gm b 3) m 0))
  · rw [if_pos c]
  · rw [if_neg c]
def mVotes (z : Zs) (b : Bool) (m : Nat) (side : Int32) : Nat → Int32 := sumV (fun j => if mSide (z.1 (gm b 3) m 0) (z.1 (gm b 3) m 1) (z.1 (gm b 2) j 6) = side then z.1 (gm b 2) j 4 else 0)
theorem sl_mvotes {G : GE} {z : Zs} {h : PH} (R : Rp G z h) {b : Bool} {n m : Nat} (hn : z.1 (gm b 0) 0 5 = nI n) (h16 : n ≤ 16) (hm : m < 12) (side : Int32) : ∀ d k fuel, k + d = n → d < fuel → f_X7_votes_b5 G fuel (z.2.2.2 (bst b)) (nI m) side (mVotes z b m side k) (nI k) h = some (mVotes z b m side n, h) := by
  intro d
  induction d with
  | zero =>
    intro k fuel hk hf
    obtain ⟨fuel, rfl⟩ : ∃ q, fuel = q + 1 := ⟨fuel - 1, by omega⟩
    obtain rfl : k = n := by omega
    show f_X7_votes_b5_body G (f_X7_votes_b5 G fuel) (z.2.2.2 (bst b)) (nI m) side (mVotes z b m side k) (nI k) h = _
    simp only [f_X7_votes_b5_body, g_st_5 R, rd_s, hn, if_pos (Int32.le_refl _)]
  | succ d ih =>
    intro k fuel hk hf
    obtain ⟨fuel, rfl⟩ : ∃ q, fuel = q + 1 := ⟨fuel - 1, by omega⟩
    have hkn : k < n := by omega
    have hk16 : k < 16 := by omega
    have ih := ih (k + 1) fuel (by omega) (by omega)
    rw [← ih]
    show f_X7_votes_b5_body G (f_X7_votes_b5 G fuel) (z.2.2.2 (bst b)) (nI m) side (mVotes z b m side k) (nI k) h = _
    simp only [f_X7_votes_b5_body, g_st_5 R, rd_s, hn, if_neg (nI_ge hkn (show n < 2 ^ 31 by omega)), c_ost R, s_mstand R hm hk16, bd_s, s_of_4 R hk16, f_X7_votes_b37, nI_1]
    rw [show mVotes z b m side (k + 1) = mVotes z b m side k + (if mSide (z.1 (gm b 3) m 0) (z.1 (gm b 3) m 1) (z.1 (gm b 2) k 6) = side then z.1 (gm b 2) k 4 else 0) from rfl]
    by_cases c : mSide (z.1 (gm b 3) m 0) (z.1 (gm b 3) m 1) (z.1 (gm b 2) k 6) = side
    · rw [if_pos c, if_pos c]
    · rw [if_neg c, if_neg c]
theorem s_mvotes {G : GE} {z : Zs} {h : PH} (R : Rp G z h) {b : Bool} {n m : Nat} (hn : z.1 (gm b 0) 0 5 = nI n) (h16 : n ≤ 16) (hm : m < 12) (side : Int32) : f_X7_votes G (z.2.2.2 (bst b)) (nI m) side h = some (mVotes z b m side n, h) :=
  sl_mvotes R hn h16 hm side n 0 LF (by omega) (by unfold LF; omega)
def mWould (z : Zs) (b : Bool) (m n : Nat) : Int32 := if mVotes z b m 1 n + mVotes z b m (-1) n < z.1 (gm b 3) m 2 then 0 else if mVotes z b m 1 n ≤ mVotes z b m (-1) n then 0 else 1
theorem s_would {G : GE} {z : Zs} {h : PH} (R : Rp G z h) {b : Bool} {n m : Nat} (hn : z.1 (gm b 0) 0 5 = nI n) (h16 : n ≤ 16) (hm : m < 12) : f_X7_would G (z.2.2.2 (bst b)) (nI m) h = some (mWould z b m n, h) := by
  have a2 := r_s4 R b (i := m) (k := 2) (by decide) hm
  simp only [f_X7_would, c_ost R, rd_s, s_mvotes R hn h16 hm, bd_s, g_st_8 R, ix6_0, show nI (6 * m + 0) + (2 : Int32) = nI (6 * m + 2) from nI_add _ 2, a2, f_X7_would_b46, f_X7_would_b47, z1_0, z1_1, ite_sm]
  rfl
