/-! ===== the model's counts ===== -/
def mCv (z : Zs) : Nat → Int32 := sumV (fun j => z.1 12 j 4)
def mCb (z : Zs) : Nat → Int32 := sumV (fun j => if z.1 12 j 8 ≤ 0 then 0 else 1)
def mCs (z : Zs) (n w : Nat) : Nat → Int32 := sumV (fun j => if z.1 12 j 8 = 0 then (if z.1 12 j 5 < mWind z false j n w then 0 else 1) else 0)
def mCt (z : Zs) (n w k : Nat) : Int32 := if k = 0 then z.1 10 0 0 else if k = 1 then z.1 10 0 5 else if k = 2 then z.1 10 0 7 else if k = 3 then z.1 10 0 1 else if k = 4 then z.1 10 0 9 else if k = 5 then mCv z n else if k = 6 then z.1 10 0 11 else if k = 7 then mCb z n else mCs z n w n
set_option maxHeartbeats 4000000 in
theorem sl_counted {G : GE} {z : Zs} {h : PH} (R : Rp G z h) {n W t q : Nat} (M : MN z false n W t) (hq : q < 9) : ∀ d k fuel, k + d = n → d < fuel → ∃ h', f_X8_counted_b10 G fuel (z.2.2.2 bX) (nI q) (mCv z k) (mCb z k) (mCs z n (t % W) k) (nI k) h = some (mCt z n (t % W) q, h') ∧ Rp G z h' := by
  have hn := M.1
  have h16 := M.2.1
  intro d
  induction d with
  | zero =>
    intro k fuel hk hf
    obtain ⟨fuel, rfl⟩ : ∃ q, fuel = q + 1 := ⟨fuel - 1, by omega⟩
    obtain rfl : k = n := by omega
    refine ⟨_, ?_, R.jk 9 (upd (upd (upd (upd (upd (upd (upd (upd (upd (fun _ => 0) 0 (z.1 10 0 0)) 1 (z.1 10 0 5)) 2 (z.1 10 0 7)) 3 (z.1 10 0 1)) 4 (z.1 10 0 9)) 5 (mCv z k)) 6 (z.1 10 0 11)) 7 (mCb z k)) 8 (mCs z k (t % W) k))⟩
    have gX : ∀ f, gR 9 (Jk h 9 f) (z.2.2.2 bX) 1 = some (z.2.2.2 (bst false)) := fun f => g_X_1 (R.jk 9 f)
    have s0 : ∀ f, gI 8 (Jk h 9 f) (z.2.2.2 (bst false)) 0 = some (z.1 10 0 0) := fun f => g_st_0 (R.jk 9 f)
    have s5 : ∀ f, gI 8 (Jk h 9 f) (z.2.2.2 (bst false)) 5 = some (z.1 10 0 5) := fun f => g_st_5 (R.jk 9 f)
    have s7 : ∀ f, gI 8 (Jk h 9 f) (z.2.2.2 (bst false)) 7 = some (z.1 10 0 7) := fun f => g_st_7 (R.jk 9 f)
    have s1 : ∀ f, gI 8 (Jk h 9 f) (z.2.2.2 (bst false)) 1 = some (z.1 10 0 1) := fun f => g_st_1 (R.jk 9 f)
    have s9 : ∀ f, gI 8 (Jk h 9 f) (z.2.2.2 (bst false)) 9 = some (z.1 10 0 9) := fun f => g_st_9 (R.jk 9 f)
    have s11 : ∀ f, gI 8 (Jk h 9 f) (z.2.2.2 (bst false)) 11 = some (z.1 10 0 11) := fun f => g_st_11 (R.jk 9 f)
    have j0 : ∀ f x, aIs (Jk h 9 f) h.1 (0 : Int32) x = some (Jk h 9 (upd f 0 x)) := fun f x => jk_set (i := 0) x (by decide) (by decide)
    have j1 : ∀ f x, aIs (Jk h 9 f) h.1 (1 : Int32) x = some (Jk h 9 (upd f 1 x)) := fun f x => jk_set (i := 1) x (by decide) (by decide)
    have j2 : ∀ f x, aIs (Jk h 9 f) h.1 (2 : Int32) x = some (Jk h 9 (upd f 2 x)) := fun f x => jk_set (i := 2) x (by decide) (by decide)
    have j3 : ∀ f x, aIs (Jk h 9 f) h.1 (3 : Int32) x = some (Jk h 9 (upd f 3 x)) := fun f x => jk_set (i := 3) x (by decide) (by decide)
    have j4 : ∀ f x, aIs (Jk h 9 f) h.1 (4 : Int32) x = some (Jk h 9 (upd f 4 x)) := fun f x => jk_set (i := 4) x (by decide) (by decide)
    have j5 : ∀ f x, aIs (Jk h 9 f) h.1 (5 : Int32) x = some (Jk h 9 (upd f 5 x)) := fun f x => jk_set (i := 5) x (by decide) (by decide)
    have j6 : ∀ f x, aIs (Jk h 9 f) h.1 (6 : Int32) x = some (Jk h 9 (upd f 6 x)) := fun f x => jk_set (i := 6) x (by decide) (by decide)
    have j7 : ∀ f x, aIs (Jk h 9 f) h.1 (7 : Int32) x = some (Jk h 9 (upd f 7 x)) := fun f x => jk_set (i := 7) x (by decide) (by decide)
    have j8 : ∀ f x, aIs (Jk h 9 f) h.1 (8 : Int32) x = some (Jk h 9 (upd f 8 x)) := fun f x => jk_set (i := 8) x (by decide) (by decide)
    have jg : ∀ f, aI (Jk h 9 f) h.1 (nI q) = some (f q) := fun f => jk_get hq (by decide)
    show f_X8_counted_b10_body G (f_X8_counted_b10 G fuel) (z.2.2.2 bX) (nI q) (mCv z k) (mCb z k) (mCs z k (t % W) k) (nI k) h = _
    simp only [f_X8_counted_b10_body, g_X_1 R, rd_s, g_st_5 R, hn, if_pos (Int32.le_refl _), jk_nw, gX, s0, s5, s7, s1, s9, s11, j0, j1, j2, j3, j4, j5, j6, j7, j8, jg]
    congr 2
    match q, hq with
    | 0, _ => rfl
    | 1, _ => rfl
    | 2, _ => rfl
    | 3, _ => rfl
    | 4, _ => rfl
    | 5, _ => rfl
    | 6, _ => rfl
    | 7, _ => rfl
    | 8, _ => rfl
  | succ d ih =>
    intro k fuel hk hf
    obtain ⟨fuel, rfl⟩ : ∃ q, fuel = q + 1 := ⟨fuel - 1, by omega⟩
    have hkn : k < n := by omega
    have hk16 : k < 16 := by omega
    obtain ⟨h', e', R'⟩ := ih (k + 1) fuel (by omega) (by omega)
    refine ⟨h', ?_, R'⟩
    rw [← e']
    show f_X8_counted_b10_body G (f_X8_counted_b10 G fuel) (z.2.2.2 bX) (nI q) (mCv z k) (mCb z k) (mCs z n (t % W) k) (nI k) h = _
    have o8 : f_X7_of G (z.2.2.2 (bst false)) (nI k) (8 : Int32) h = some (z.1 12 k 8, h) := s_of_8 R hk16
    have o4 : f_X7_of G (z.2.2.2 (bst false)) (nI k) (4 : Int32) h = some (z.1 12 k 4, h) := s_of_4 R hk16
    have o5 : f_X7_of G (z.2.2.2 (bst false)) (nI k) (5 : Int32) h = some (z.1 12 k 5, h) := s_of_5 R hk16
    simp only [f_X8_counted_b10_body, g_X_1 R, rd_s, g_st_5 R, hn, if_neg (nI_ge hkn (show n < 2 ^ 31 by omega)), c_ost R, o4, o8, o5, bd_s, f_X8_counted_b55, s_mwind R M hk16, f_X8_counted_b99, f_X8_counted_b100, nI_1]
    rw [show mCv z (k + 1) = mCv z k + z.1 12 k 4 from rfl, show mCb z (k + 1) = mCb z k + (if z.1 12 k 8 ≤ 0 then 0 else 1) from rfl, show mCs z n (t % W) (k + 1) = mCs z n (t % W) k + (if z.1 12 k 8 = 0 then (if z.1 12 k 5 < mWind z false k n (t % W) then 0 else 1) else 0) from rfl]
    by_cases c1 : z.1 12 k 8 ≤ 0
    · simp only [if_pos c1]
      by_cases c2 : z.1 12 k 8 = 0
      · simp only [if_pos c2]
        by_cases c3 : z.1 12 k 5 < mWind z false k n (t % W)
        · simp only [if_pos c3]
        · simp only [if_neg c3]
      · simp only [if_neg c2]
    · simp only [if_neg c1]
      by_cases c2 : z.1 12 k 8 = 0
      · simp only [if_pos c2]
        by_cases c3 : z.1 12 k 5 < mWind z false k n (t % W)
        · simp only [if_pos c3]
        · simp only [if_neg c3]
      · simp only [if_neg c2]
theorem s_counted {G : GE} {z : Zs} {h : PH} (R : Rp G z h) {n W t q : Nat} (M : MN z false n W t) (hq : q < 9) : ∃ h', f_X8_counted G (z.2.2.2 bX) (nI q) h = some (mCt z n (t % W) q, h') ∧ Rp G z h' :=
  sl_counted R M hq n 0 LF (by omega) (by have := M.2.1; unfold LF; omega)
