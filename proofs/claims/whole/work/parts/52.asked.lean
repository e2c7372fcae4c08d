/-! ===== the model asked ===== -/
theorem Rp.up {G : GE} {z : Zs} {h h' : PH} (R : Rp G z h) (h1 : h.1 ≤ h'.1) (h2 : ∀ q, q < h.1 → h'.2 q = h.2 q) : Rp G z h' := by
  refine ⟨⟨Nat.lt_of_lt_of_le R.1.1 h1, R.1.2.1, fun l c hl => ?_⟩, R.2⟩
  obtain ⟨a1, a2, a3⟩ := R.1.2.2 l c hl
  exact ⟨(h2 _ a2).trans a1, Nat.lt_of_lt_of_le a2 h1, a3⟩
theorem va_up2 {α : Type} (f : Nat → α) (q : Nat) (x y : α) : va_up (va_up f q x) q y = va_up f q y := by
  funext j
  unfold va_up
  by_cases e : j = q <;> simp [e]
/-- a cell of ints of the call's own -/
def Jk (h : PH) (n : Nat) (f : Nat → Int32) : PH := (h.1 + 1, va_up h.2 h.1 (some (.inl (0, n, .inl f))))
theorem Rp.jk {G : GE} {z : Zs} {h : PH} (R : Rp G z h) (n : Nat) (f : Nat → Int32) : Rp G z (Jk h n f) :=
  R.up (Nat.le_succ _) (fun q hq => by
    show va_up h.2 h.1 _ q = h.2 q
    unfold va_up
    rw [if_neg (by omega)])
theorem jk_set {h : PH} {n : Nat} {f : Nat → Int32} {i : Nat} (x : Int32) (hi : i < n) (hn : n < 2 ^ 31) : aIs (Jk h n f) h.1 (nI i) x = some (Jk h n (upd f i x)) := by
  have h1 : (Jk h n f).2 h.1 = some (.inl (0, n, .inl f)) := by
    show va_up h.2 h.1 _ h.1 = _
    unfold va_up
    rw [if_pos rfl]
  rw [aIs_of x h1 hi hn]
  show some (h.1 + 1, va_up (va_up h.2 h.1 _) h.1 _) = _
  rw [va_up2]
  rfl
theorem jk_get {h : PH} {n : Nat} {f : Nat → Int32} {i : Nat} (hi : i < n) (hn : n < 2 ^ 31) : aI (Jk h n f) h.1 (nI i) = some (f i) := by
  have h1 : (Jk h n f).2 h.1 = some (.inl (0, n, .inl f)) := by
    show va_up h.2 h.1 _ h.1 = _
    unfold va_up
    rw [if_pos rfl]
  exact aI_of h1 hi hn
theorem jk_nw {β : Type} {h : PH} {n : Nat} (F : Nat → PH → Option β) : nw h (cI n) F = F h.1 (Jk h n (fun _ => 0)) := rfl
theorem s_isIn {G : GE} {h : PH} (x a b : Int32) : f_X8_isIn G x a b h = some (if x < a then 0 else if b < x then 0 else 1, h) := by
  simp only [f_X8_isIn, f_X8_isIn_b14, f_X8_isIn_b15, z1_0, z1_1, ite_sm]
theorem z1_i {β : Type} {c d : Prop} [Decidable c] [Decidable d] (F : Option β) : z1 (if c then (0 : Int32) else if d then 0 else 1) F = F := by
  split
  · rfl
  · split <;> rfl
theorem s_misVane {G : GE} {z : Zs} {h : PH} (R : Rp G z h) (x : Int32) : f_X8_isVane G (z.2.2.2 bX) x h = some (if x < 0 then 0 else if z.1 10 0 5 - 1 < x then 0 else 1, h) := by
  simp only [f_X8_isVane, g_X_1 R, rd_s, g_st_5 R (b := false), s_isIn, bd_s, z1_i]
  rfl
theorem s_misMotion {G : GE} {z : Zs} {h : PH} (R : Rp G z h) (x : Int32) : f_X8_isMotion G (z.2.2.2 bX) x h = some (if x < 0 then 0 else if z.1 10 0 7 - 1 < x then 0 else 1, h) := by
  simp only [f_X8_isMotion, g_X_1 R, rd_s, g_st_7 R (b := false), s_isIn, bd_s, z1_i]
  rfl
theorem s_no {G : GE} {z : Zs} {h : PH} (R : Rp G z h) (x : Int32) : ∃ h', f_X8_no G (z.2.2.2 bX) x h = some (0, h') ∧ Rp G (uI z 0 1 0 x) h' := by
  obtain ⟨h1, e1, R1⟩ := w_X_0 R x
  exact ⟨h1, by rw [f_X8_no, e1, rd_s], R1⟩
theorem s_partyOf {G : GE} {z : Zs} {h : PH} (R : Rp G z h) {v : Nat} (hv : v < 16) : f_X8_partyOf G (z.2.2.2 bX) (nI v) h = some (kParty (z.1 12 v 6), h) := by
  rw [f_X8_partyOf, g_X_1 R, rd_s, c_ost R, rd_s, s_of_6 R hv, bd_s]
  rfl
theorem s_ofk {G : GE} {z : Zs} {h : PH} (R : Rp G z h) {b : Bool} {v k : Nat} (hv : v < 16) (hk : k < 10) : f_X7_of G (z.2.2.2 (bst b)) (nI v) (nI k) h = some (z.1 (gm b 2) v k, h) := by
  rw [f_X7_of, g_st_6 R, rd_s, show ((10 : Int32) * nI v + nI k) = nI (10 * v + k) from nI_ix 10 v k, r_s3 R b hk hv, rd_s]
/-- a vane's facts, as the model tells them -/
def mVT (z : Zs) (v n w k : Nat) : Int32 := if k < 9 then z.1 12 v k else if k = 9 then kParty (z.1 12 v 6) else if k = 10 then mWind z false v n w else mLee z false v n w
theorem s_vaneTold {G : GE} {z : Zs} {h : PH} (R : Rp G z h) {n W t v k : Nat} (M : MN z false n W t) (hv : v < 16) (hk : k < 12) : f_X8_vaneTold G (z.2.2.2 bX) (nI v) (nI k) h = some (mVT z v n (t % W) k, h) := by
  by_cases c : k < 9
  · have c1 : ¬ (9 : Int32) ≤ nI k := nI_ge (b := 9) c (by decide)
    simp only [f_X8_vaneTold, if_neg c1, g_X_1 R, rd_s, c_ost R, s_ofk R hv (show k < 10 by omega), bd_s, f_X8_vaneTold_b57, mVT, if_pos c]
    rfl
  · have c1 : (9 : Int32) ≤ nI k := nI_le (a := 9) (by omega) (by omega)
    rcases (show k = 9 ∨ k = 10 ∨ k = 11 by omega) with e | e | e
    · subst e
      simp only [f_X8_vaneTold, if_pos c1, if_pos (show nI 9 = (9 : Int32) from rfl), c_oX R, rd_s, s_partyOf R hv, bd_s, f_X8_vaneTold_b57, mVT, if_neg c, if_true]
    · subst e
      simp only [f_X8_vaneTold, if_pos c1, if_neg (show ¬ nI 10 = (9 : Int32) by decide), if_pos (show nI 10 = (10 : Int32) from rfl), g_X_1 R, rd_s, c_ost R, s_mwind R M hv, bd_s, f_X8_vaneTold_b57, mVT, if_neg c, if_neg (show ¬ 10 = 9 by decide), if_true]
    · subst e
      simp only [f_X8_vaneTold, if_pos c1, if_neg (show ¬ nI 11 = (9 : Int32) by decide), if_neg (show ¬ nI 11 = (10 : Int32) by decide), g_X_1 R, rd_s, c_ost R, s_lee R M hv, bd_s, f_X8_vaneTold_b57, mVT, if_neg c, if_neg (show ¬ 11 = 9 by decide), if_neg (show ¬ 11 = 10 by decide)]
def mWT (z : Zs) (w k : Nat) : Int32 := if k = 0 then z.1 11 0 w else if k = 1 then z.1 11 1 w else if z.1 11 2 w = 0 then 0 else 1
theorem s_windTold {G : GE} {z : Zs} {h : PH} (R : Rp G z h) {w k : Nat} (hw : w < 24) (hk : k < 3) : f_X8_windTold G (z.2.2.2 bX) (nI w) (nI k) h = some (mWT z w k, h) := by
  have a0 := r_s0 R false hw
  have a1 := r_s1 R false hw
  have a2 := r_s2 R false hw
  match k, hk with
  | 0, _ =>
    simp only [f_X8_windTold, if_pos (show nI 0 = 0 from rfl), g_X_1 R, rd_s, g_st_2 R, a0, f_X8_windTold_b50, mWT, if_true]
    rfl
  | 1, _ =>
    simp only [f_X8_windTold, if_neg (show ¬ nI 1 = 0 by decide), if_pos (show nI 1 = (1 : Int32) from rfl), g_X_1 R, rd_s, g_st_3 R, a1, f_X8_windTold_b50, mWT, if_neg (show ¬ 1 = 0 by decide), if_true]
    rfl
  | 2, _ =>
    simp only [f_X8_windTold, if_neg (show ¬ nI 2 = 0 by decide), if_neg (show ¬ nI 2 = (1 : Int32) by decide), g_X_1 R, rd_s, g_st_4 R, a2, f_X8_windTold_b50, mWT, if_neg (show ¬ 2 = 0 by decide), if_neg (show ¬ 2 = 1 by decide), ite_sm]
    rfl
def mMT (z : Zs) (m n k : Nat) : Int32 := if k < 4 then z.1 13 m k else if k = 4 then mVotes z false m 1 n else if k = 5 then mVotes z false m (-1) n else if k = 6 then mWould z false m n else z.1 13 m (k - 3)
theorem s_motionTold {G : GE} {z : Zs} {h : PH} (R : Rp G z h) {n m k : Nat} (hn : z.1 10 0 5 = nI n) (h16 : n ≤ 16) (hm : m < 12) (hk : k < 9) : f_X8_motionTold G (z.2.2.2 bX) (nI m) (nI k) h = some (mMT z m n k, h) := by
  have hn' : z.1 (gm false 0) 0 5 = nI n := hn
  by_cases c : k < 4
  · have c1 : ¬ (4 : Int32) ≤ nI k := nI_ge (b := 4) c (by decide)
    simp only [f_X8_motionTold, if_neg c1, g_X_1 R, rd_s, g_st_8 R, show (6 : Int32) * nI m + nI k = nI (6 * m + k) from ix6 m k, r_s4 R false (show k < 6 by omega) hm, mMT, if_pos c]
    rfl
  · have c1 : (4 : Int32) ≤ nI k := nI_le (a := 4) (by omega) (by omega)
    have h6 : (if mWould z false m n = 0 then some ((0 : Int32), h) else some (1, h)) = some (mWould z false m n, h) := by
      rcases mWould_01 z false m n with e | e <;> rw [e] <;> rfl
    rcases (show k = 4 ∨ k = 5 ∨ k = 6 ∨ k = 7 ∨ k = 8 by omega) with e | e | e | e | e
    · subst e
      simp only [f_X8_motionTold, if_pos c1, if_neg (show ¬ (6 : Int32) ≤ nI 4 by decide), g_X_1 R, rd_s, if_pos (show nI 4 = (4 : Int32) from rfl), f_X8_motionTold_b41, c_ost R, s_mvotes R hn' h16 hm, bd_s, mMT, if_neg c, if_true]
    · subst e
      simp only [f_X8_motionTold, if_pos c1, if_neg (show ¬ (6 : Int32) ≤ nI 5 by decide), g_X_1 R, rd_s, if_neg (show ¬ nI 5 = (4 : Int32) by decide), f_X8_motionTold_b41, c_ost R, s_mvotes R hn' h16 hm, bd_s, mMT, if_neg c, if_neg (show ¬ 5 = 4 by decide), if_true]
    · subst e
      simp only [f_X8_motionTold, if_pos c1, if_pos (show (6 : Int32) ≤ nI 6 by decide), if_pos (show nI 6 = (6 : Int32) from rfl), g_X_1 R, rd_s, c_ost R, s_would R hn' h16 hm, bd_s, f_X8_motionTold_b86, h6, mMT, if_neg c, if_neg (show ¬ 6 = 4 by decide), if_neg (show ¬ 6 = 5 by decide), if_true]
    · subst e
      have i : (6 : Int32) * nI m + nI 7 - (3 : Int32) = nI (6 * m + 4) := by
        rw [ix6 m 7, show 6 * m + 7 = (6 * m + 4) + 3 by omega, ← nI_add]
        exact Int32.add_sub_cancel _ _
      simp only [f_X8_motionTold, if_pos c1, if_pos (show (6 : Int32) ≤ nI 7 by decide), if_neg (show ¬ nI 7 = (6 : Int32) by decide), g_X_1 R, rd_s, g_st_8 R, i, r_s4 R false (show 4 < 6 by decide) hm, f_X8_motionTold_b86, mMT, if_neg c, if_neg (show ¬ 7 = 4 by decide), if_neg (show ¬ 7 = 5 by decide), if_neg (show ¬ 7 = 6 by decide)]
      rfl
    · subst e
      have i : (6 : Int32) * nI m + nI 8 - (3 : Int32) = nI (6 * m + 5) := by
        rw [ix6 m 8, show 6 * m + 8 = (6 * m + 5) + 3 by omega, ← nI_add]
        exact Int32.add_sub_cancel _ _
      simp only [f_X8_motionTold, if_pos c1, if_pos (show (6 : Int32) ≤ nI 8 by decide), if_neg (show ¬ nI 8 = (6 : Int32) by decide), g_X_1 R, rd_s, g_st_8 R, i, r_s4 R false (show 5 < 6 by decide) hm, f_X8_motionTold_b86, mMT, if_neg c, if_neg (show ¬ 8 = 4 by decide), if_neg (show ¬ 8 = 5 by decide), if_neg (show ¬ 8 = 6 by decide)]
      rfl
/-- the votes, or the number, of a party -/
def mPT (z : Zs) (p x : Int32) : Nat → Int32 := sumV (fun j => if kParty (z.1 12 j 6) = p then (if x = 0 then 1 else z.1 12 j 4) else 0)
theorem sl_partyTold {G : GE} {z : Zs} {h : PH} (R : Rp G z h) {n : Nat} (hn : z.1 10 0 5 = nI n) (h16 : n ≤ 16) (p x : Int32) : ∀ d k fuel, k + d = n → d < fuel → f_X8_partyTold_b5 G fuel (z.2.2.2 bX) p x (mPT z p x k) (nI k) h = some (mPT z p x n, h) := by
  have hn' : z.1 (gm false 0) 0 5 = nI n := hn
  intro d
  induction d with
  | zero =>
    intro k fuel hk hf
    obtain ⟨fuel, rfl⟩ : ∃ q, fuel = q + 1 := ⟨fuel - 1, by omega⟩
    obtain rfl : k = n := by omega
    show f_X8_partyTold_b5_body G (f_X8_partyTold_b5 G fuel) (z.2.2.2 bX) p x (mPT z p x k) (nI k) h = _
    simp only [f_X8_partyTold_b5_body, g_X_1 R, g_st_5 R, rd_s, hn', if_pos (Int32.le_refl _)]
  | succ d ih =>
    intro k fuel hk hf
    obtain ⟨fuel, rfl⟩ : ∃ q, fuel = q + 1 := ⟨fuel - 1, by omega⟩
    have hkn : k < n := by omega
    have hk16 : k < 16 := by omega
    have ih := ih (k + 1) fuel (by omega) (by omega)
    rw [← ih]
    show f_X8_partyTold_b5_body G (f_X8_partyTold_b5 G fuel) (z.2.2.2 bX) p x (mPT z p x k) (nI k) h = _
    simp only [f_X8_partyTold_b5_body, g_X_1 R, g_st_5 R, rd_s, hn', if_neg (nI_ge hkn (show n < 2 ^ 31 by omega)), c_oX R, s_partyOf R hk16, bd_s, c_ost R, s_of_4 R hk16, f_X8_partyTold_b50, nI_1]
    rw [show mPT z p x (k + 1) = mPT z p x k + (if kParty (z.1 12 k 6) = p then (if x = 0 then 1 else z.1 12 k 4) else 0) from rfl]
    by_cases c : kParty (z.1 12 k 6) = p
    · rw [if_pos c, if_pos c]
      by_cases e : x = 0
      · rw [if_pos e, if_pos e]
      · rw [if_neg e, if_neg e]
        rfl
    · rw [if_neg c, if_neg c]
theorem s_partyTold {G : GE} {z : Zs} {h : PH} (R : Rp G z h) {n : Nat} (hn : z.1 10 0 5 = nI n) (h16 : n ≤ 16) (p x : Int32) : f_X8_partyTold G (z.2.2.2 bX) p x h = some (mPT z p x n, h) :=
  sl_partyTold R hn h16 p x n 0 LF (by omega) (by unfold LF; omega)
