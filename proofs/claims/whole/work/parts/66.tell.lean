/-! ===== the two tell the same ===== -/
theorem SimH.wx {n W t ne : Nat} {c m : Zs} {b d : Bool} (S : SimH n W t ne c b m d) : t % W < c.2.1 0 := by
  have := S.2.1.wi t
  rw [S.2.2.1] at this ⊢
  exact this
theorem eq_mt {n W H0 ne : Nat} {z : Zs} (S : SimH n W H0 ne z false z false) (C : MC z z false) {q k : Nat} (hq : q < z.2.1 1) (hk : k < 9) : kMT z false q n (nI k) = mMT z q n k := by
  have h0 := S.1.2.2.2.2.1 q
  match k, hk with
  | 0, _ =>
    have e : kMT z false q n (nI 0) = z.1 2 q 0 := by
      unfold kMT
      simp only [if_pos (show nI 0 = (0 : Int32) from rfl)]
    rw [e]
    exact h0 0 hq (by decide)
  | 1, _ =>
    have e : kMT z false q n (nI 1) = z.1 2 q 1 := by
      unfold kMT
      simp only [if_neg (show ¬ nI 1 = (0 : Int32) by decide), if_pos (show nI 1 = (1 : Int32) from rfl)]
    rw [e]
    exact h0 1 hq (by decide)
  | 2, _ =>
    have e : kMT z false q n (nI 2) = z.1 2 q 2 := by
      unfold kMT
      simp only [if_neg (show ¬ nI 2 = (0 : Int32) by decide), if_neg (show ¬ nI 2 = (1 : Int32) by decide), if_pos (show nI 2 = (2 : Int32) from rfl)]
    rw [e]
    exact h0 2 hq (by decide)
  | 3, _ =>
    have e : kMT z false q n (nI 3) = z.1 2 q 3 := by
      unfold kMT
      simp only [if_neg (show ¬ nI 3 = (0 : Int32) by decide), if_neg (show ¬ nI 3 = (1 : Int32) by decide), if_neg (show ¬ nI 3 = (2 : Int32) by decide), if_pos (show nI 3 = (3 : Int32) from rfl)]
    rw [e]
    exact h0 3 hq (by decide)
  | 4, _ =>
    have e : kMT z false q n (nI 4) = kVotes z false q 1 n := by
      unfold kMT
      simp only [if_neg (show ¬ nI 4 = (0 : Int32) by decide), if_neg (show ¬ nI 4 = (1 : Int32) by decide), if_neg (show ¬ nI 4 = (2 : Int32) by decide), if_neg (show ¬ nI 4 = (3 : Int32) by decide), if_pos (show nI 4 = (4 : Int32) from rfl)]
    rw [e]
    exact S.1.votes S.2.1 hq 1
  | 5, _ =>
    have e : kMT z false q n (nI 5) = kVotes z false q (-1) n := by
      unfold kMT
      simp only [if_neg (show ¬ nI 5 = (0 : Int32) by decide), if_neg (show ¬ nI 5 = (1 : Int32) by decide), if_neg (show ¬ nI 5 = (2 : Int32) by decide), if_neg (show ¬ nI 5 = (3 : Int32) by decide), if_neg (show ¬ nI 5 = (4 : Int32) by decide), if_pos (show nI 5 = (5 : Int32) from rfl)]
    rw [e]
    exact S.1.votes S.2.1 hq (-1)
  | 6, _ =>
    have e : kMT z false q n (nI 6) = kCarr z false q n := by
      unfold kMT
      simp only [if_neg (show ¬ nI 6 = (0 : Int32) by decide), if_neg (show ¬ nI 6 = (1 : Int32) by decide), if_neg (show ¬ nI 6 = (2 : Int32) by decide), if_neg (show ¬ nI 6 = (3 : Int32) by decide), if_neg (show ¬ nI 6 = (4 : Int32) by decide), if_neg (show ¬ nI 6 = (5 : Int32) by decide), if_pos (show nI 6 = (6 : Int32) from rfl)]
    rw [e, S.1.carr S.2.1 hq]
    unfold mMT
    rw [if_neg (show ¬ 6 < 4 by decide), if_neg (show ¬ 6 = 4 by decide), if_neg (show ¬ 6 = 5 by decide), if_pos rfl]
  | 7, _ =>
    have e : kMT z false q n (nI 7) = z.1 2 q 4 := by
      unfold kMT
      simp only [if_neg (show ¬ nI 7 = (0 : Int32) by decide), if_neg (show ¬ nI 7 = (1 : Int32) by decide), if_neg (show ¬ nI 7 = (2 : Int32) by decide), if_neg (show ¬ nI 7 = (3 : Int32) by decide), if_neg (show ¬ nI 7 = (4 : Int32) by decide), if_neg (show ¬ nI 7 = (5 : Int32) by decide), if_neg (show ¬ nI 7 = (6 : Int32) by decide), if_pos (show nI 7 = (7 : Int32) from rfl)]
    rw [e]
    exact C q 4 hq (by decide) (by decide)
  | 8, _ =>
    have e : kMT z false q n (nI 8) = z.1 2 q 5 := by
      unfold kMT
      simp only [if_neg (show ¬ nI 8 = (0 : Int32) by decide), if_neg (show ¬ nI 8 = (1 : Int32) by decide), if_neg (show ¬ nI 8 = (2 : Int32) by decide), if_neg (show ¬ nI 8 = (3 : Int32) by decide), if_neg (show ¬ nI 8 = (4 : Int32) by decide), if_neg (show ¬ nI 8 = (5 : Int32) by decide), if_neg (show ¬ nI 8 = (6 : Int32) by decide), if_neg (show ¬ nI 8 = (7 : Int32) by decide)]
    rw [e]
    exact C q 5 hq (by decide) (by decide)
theorem eq_vt {n W H0 ne : Nat} {z : Zs} (S : SimH n W H0 ne z false z false) {v k : Nat} (hv : v < n) (hk : k < 12) : kVT z false v (H0 % W) (nI k) = mVT z v n (H0 % W) k := by
  have hw := S.wx
  have r := S.1.1 v hv
  have mm := S.1.2.1 v
  match k, hk with
  | 0, _ =>
    have e : kVT z false v (H0 % W) (nI 0) = z.1 4 v 0 := by
      unfold kVT
      simp only [if_pos (show nI 0 = (0 : Int32) from rfl)]
    rw [e]
    exact mm 0 hv (by decide)
  | 1, _ =>
    have e : kVT z false v (H0 % W) (nI 1) = z.1 4 v 1 := by
      unfold kVT
      simp only [if_neg (show ¬ nI 1 = (0 : Int32) by decide), if_pos (show nI 1 = (1 : Int32) from rfl)]
    rw [e]
    exact mm 1 hv (by decide)
  | 2, _ =>
    have e : kVT z false v (H0 % W) (nI 2) = z.1 4 v 2 := by
      unfold kVT
      simp only [if_neg (show ¬ nI 2 = (0 : Int32) by decide), if_neg (show ¬ nI 2 = (1 : Int32) by decide), if_pos (show nI 2 = (2 : Int32) from rfl)]
    rw [e]
    exact mm 2 hv (by decide)
  | 3, _ =>
    have e : kVT z false v (H0 % W) (nI 3) = z.1 4 v 3 := by
      unfold kVT
      simp only [if_neg (show ¬ nI 3 = (0 : Int32) by decide), if_neg (show ¬ nI 3 = (1 : Int32) by decide), if_neg (show ¬ nI 3 = (2 : Int32) by decide), if_pos (show nI 3 = (3 : Int32) from rfl)]
    rw [e]
    exact mm 3 hv (by decide)
  | 4, _ =>
    have e : kVT z false v (H0 % W) (nI 4) = z.1 (gv false) v 4 := by
      unfold kVT
      simp only [if_neg (show ¬ nI 4 = (0 : Int32) by decide), if_neg (show ¬ nI 4 = (1 : Int32) by decide), if_neg (show ¬ nI 4 = (2 : Int32) by decide), if_neg (show ¬ nI 4 = (3 : Int32) by decide), if_pos (show nI 4 = (4 : Int32) from rfl)]
    rw [e]
    exact r 4 (by decide) (by decide)
  | 5, _ =>
    have e : kVT z false v (H0 % W) (nI 5) = z.1 (gv false) v 5 := by
      unfold kVT
      simp only [if_neg (show ¬ nI 5 = (0 : Int32) by decide), if_neg (show ¬ nI 5 = (1 : Int32) by decide), if_neg (show ¬ nI 5 = (2 : Int32) by decide), if_neg (show ¬ nI 5 = (3 : Int32) by decide), if_neg (show ¬ nI 5 = (4 : Int32) by decide), if_pos (show nI 5 = (5 : Int32) from rfl)]
    rw [e]
    exact r 5 (by decide) (by decide)
  | 6, _ =>
    have e : kVT z false v (H0 % W) (nI 6) = z.1 (gv false) v 6 := by
      unfold kVT
      simp only [if_neg (show ¬ nI 6 = (0 : Int32) by decide), if_neg (show ¬ nI 6 = (1 : Int32) by decide), if_neg (show ¬ nI 6 = (2 : Int32) by decide), if_neg (show ¬ nI 6 = (3 : Int32) by decide), if_neg (show ¬ nI 6 = (4 : Int32) by decide), if_neg (show ¬ nI 6 = (5 : Int32) by decide), if_pos (show nI 6 = (6 : Int32) from rfl)]
    rw [e]
    exact r 6 (by decide) (by decide)
  | 7, _ =>
    have e : kVT z false v (H0 % W) (nI 7) = z.1 (gv false) v 7 := by
      unfold kVT
      simp only [if_neg (show ¬ nI 7 = (0 : Int32) by decide), if_neg (show ¬ nI 7 = (1 : Int32) by decide), if_neg (show ¬ nI 7 = (2 : Int32) by decide), if_neg (show ¬ nI 7 = (3 : Int32) by decide), if_neg (show ¬ nI 7 = (4 : Int32) by decide), if_neg (show ¬ nI 7 = (5 : Int32) by decide), if_neg (show ¬ nI 7 = (6 : Int32) by decide), if_pos (show nI 7 = (7 : Int32) from rfl)]
    rw [e]
    exact r 7 (by decide) (by decide)
  | 8, _ =>
    have e : kVT z false v (H0 % W) (nI 8) = z.1 (gv false) v 8 := by
      unfold kVT
      simp only [if_neg (show ¬ nI 8 = (0 : Int32) by decide), if_neg (show ¬ nI 8 = (1 : Int32) by decide), if_neg (show ¬ nI 8 = (2 : Int32) by decide), if_neg (show ¬ nI 8 = (3 : Int32) by decide), if_neg (show ¬ nI 8 = (4 : Int32) by decide), if_neg (show ¬ nI 8 = (5 : Int32) by decide), if_neg (show ¬ nI 8 = (6 : Int32) by decide), if_neg (show ¬ nI 8 = (7 : Int32) by decide), if_pos (show nI 8 = (8 : Int32) from rfl)]
    rw [e]
    exact r 8 (by decide) (by decide)
  | 9, _ =>
    have e : kVT z false v (H0 % W) (nI 9) = kParty (z.1 (gv false) v 6) := by
      unfold kVT
      simp only [if_neg (show ¬ nI 9 = (0 : Int32) by decide), if_neg (show ¬ nI 9 = (1 : Int32) by decide), if_neg (show ¬ nI 9 = (2 : Int32) by decide), if_neg (show ¬ nI 9 = (3 : Int32) by decide), if_neg (show ¬ nI 9 = (4 : Int32) by decide), if_neg (show ¬ nI 9 = (5 : Int32) by decide), if_neg (show ¬ nI 9 = (6 : Int32) by decide), if_neg (show ¬ nI 9 = (7 : Int32) by decide), if_neg (show ¬ nI 9 = (8 : Int32) by decide), if_pos (show nI 9 = (9 : Int32) from rfl)]
    rw [e]
    exact congrArg kParty (r 6 (by decide) (by decide))
  | 10, _ =>
    have e : kVT z false v (H0 % W) (nI 10) = kWind z v (H0 % W) := by
      unfold kVT
      simp only [if_neg (show ¬ nI 10 = (0 : Int32) by decide), if_neg (show ¬ nI 10 = (1 : Int32) by decide), if_neg (show ¬ nI 10 = (2 : Int32) by decide), if_neg (show ¬ nI 10 = (3 : Int32) by decide), if_neg (show ¬ nI 10 = (4 : Int32) by decide), if_neg (show ¬ nI 10 = (5 : Int32) by decide), if_neg (show ¬ nI 10 = (6 : Int32) by decide), if_neg (show ¬ nI 10 = (7 : Int32) by decide), if_neg (show ¬ nI 10 = (8 : Int32) by decide), if_neg (show ¬ nI 10 = (9 : Int32) by decide), if_pos (show nI 10 = (10 : Int32) from rfl)]
    rw [e]
    exact S.1.wind S.2.1 hv hw
  | 11, _ =>
    have e : kVT z false v (H0 % W) (nI 11) = kLee z v (z.1 1 (H0 % W) 0) := by
      unfold kVT
      simp only [if_neg (show ¬ nI 11 = (0 : Int32) by decide), if_neg (show ¬ nI 11 = (1 : Int32) by decide), if_neg (show ¬ nI 11 = (2 : Int32) by decide), if_neg (show ¬ nI 11 = (3 : Int32) by decide), if_neg (show ¬ nI 11 = (4 : Int32) by decide), if_neg (show ¬ nI 11 = (5 : Int32) by decide), if_neg (show ¬ nI 11 = (6 : Int32) by decide), if_neg (show ¬ nI 11 = (7 : Int32) by decide), if_neg (show ¬ nI 11 = (8 : Int32) by decide), if_neg (show ¬ nI 11 = (9 : Int32) by decide), if_neg (show ¬ nI 11 = (10 : Int32) by decide)]
    rw [e]
    exact S.1.lee S.2.1 hv hw
theorem party_bit {d : Int32} (hd : isB 16 d) {p : Nat} (hp : p < 4) : (((((1 : Int32) <<< (nI p &&& 31)) >>> (kParty d &&& 31)) &&& (1 : Int32)) = 1 ↔ kParty d = nI p) ∧ ((((1 : Int32) <<< (nI p &&& 31)) >>> (kParty d &&& 31)) &&& (1 : Int32)) = (if kParty d = nI p then 1 else 0) := by
  obtain ⟨x, hx, rfl⟩ := hd
  have key : ∀ x, x < 16 → ∀ p, p < 4 → (((((1 : Int32) <<< (nI p &&& 31)) >>> (kParty (nI x) &&& 31)) &&& (1 : Int32)) = 1 ↔ kParty (nI x) = nI p) ∧ ((((1 : Int32) <<< (nI p &&& 31)) >>> (kParty (nI x) &&& 31)) &&& (1 : Int32)) = (if kParty (nI x) = nI p then 1 else 0) := by decide +kernel
  exact key x hx p hp
theorem all_bit {d : Int32} (hd : isB 16 d) : ((((15 : Int32)) >>> (kParty d &&& 31)) &&& (1 : Int32)) = 1 := by
  obtain ⟨x, hx, rfl⟩ := hd
  have key : ∀ x, x < 16 → ((((15 : Int32)) >>> (kParty (nI x) &&& 31)) &&& (1 : Int32)) = 1 := by decide +kernel
  exact key x hx
theorem eq_of {n W H0 ne : Nat} {z : Zs} (S : SimH n W H0 ne z false z false) {p : Nat} (hp : p < 4) : kOf z false ((1 : Int32) <<< (nI p &&& 31)) n = mPT z (nI p) 1 n ∧ kVof z false ((1 : Int32) <<< (nI p &&& 31)) n = mPT z (nI p) 0 n := by
  have r := S.1.1
  constructor
  · unfold kOf mPT
    refine sumV_c n (fun j hj => ?_)
    have e6 : z.1 (gv false) j 6 = z.1 12 j 6 := r j hj 6 (by decide) (by decide)
    have e4 : z.1 (gv false) j 4 = z.1 12 j 4 := r j hj 4 (by decide) (by decide)
    have b := (party_bit (S.2.1.2.2.2.2 j hj).2.2.1 hp).1
    rw [← e6, ← e4]
    by_cases c : kParty (z.1 (gv false) j 6) = nI p
    · rw [if_pos (b.mpr c), if_pos c, if_neg ne10]
    · rw [if_neg (fun q => c (b.mp q)), if_neg c]
  · unfold kVof mPT
    refine sumV_c n (fun j hj => ?_)
    have e6 : z.1 (gv false) j 6 = z.1 12 j 6 := r j hj 6 (by decide) (by decide)
    rw [← e6, (party_bit (S.2.1.2.2.2.2 j hj).2.2.1 hp).2]
    by_cases c : kParty (z.1 (gv false) j 6) = nI p
    · rw [if_pos c, if_pos c, if_pos rfl]
    · rw [if_neg c, if_neg c]
theorem eq_all {n W H0 ne : Nat} {z : Zs} (S : SimH n W H0 ne z false z false) : kOf z false 15 n = mCv z n := by
  unfold kOf mCv
  refine sumV_c n (fun j hj => ?_)
  rw [if_pos (all_bit (S.2.1.2.2.2.2 j hj).2.2.1)]
  exact S.1.1 j hj 4 (by decide) (by decide)
theorem eq_bound {n W H0 ne : Nat} {z : Zs} (S : SimH n W H0 ne z false z false) : kBound z false n = mCb z n := by
  unfold kBound mCb
  refine sumV_c n (fun j hj => ?_)
  rw [show z.1 (gv false) j 8 = z.1 12 j 8 from S.1.1 j hj 8 (by decide) (by decide)]
theorem eq_stuck {n W H0 ne : Nat} {z : Zs} (S : SimH n W H0 ne z false z false) : kStuck z false (H0 % W) n = mCs z n (H0 % W) n := by
  unfold kStuck mCs
  refine sumV_c n (fun j hj => ?_)
  rw [show z.1 (gv false) j 8 = z.1 12 j 8 from S.1.1 j hj 8 (by decide) (by decide), show z.1 (gv false) j 5 = z.1 12 j 5 from S.1.1 j hj 5 (by decide) (by decide), S.1.wind S.2.1 hj S.wx]
