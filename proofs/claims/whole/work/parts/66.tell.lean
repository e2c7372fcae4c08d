/-! ===== the two tell the same ===== -/
theorem SimH.wx {n W t ne : Nat} {c m : Zs} {b d : Bool} (S : SimH n W t ne c b m d) : t % W < c.2.1 0 := by
  have := S.2.1.wi t
  rw [S.2.2.1] at this ⊢
  exact this
theorem eq_mt {n W H0 ne : Nat} {z : Zs} (S : SimH n W H0 ne z false z false) (C : MC z z false) {q k : Nat} (hq : q < z.2.1 1) (hk : k < 9) : kMT z false q n (nI k) = mMT z q n k := by
  have h0 := S.1.2.2.2.2.1 q
  match k, hk with
  | 0, _ => exact h0 0 hq (by decide)
  | 1, _ => exact h0 1 hq (by decide)
  | 2, _ => exact h0 2 hq (by decide)
  | 3, _ => exact h0 3 hq (by decide)
  | 4, _ => exact S.1.votes S.2.1 hq 1
  | 5, _ => exact S.1.votes S.2.1 hq (-1)
  | 6, _ => exact S.1.carr S.2.1 hq
  | 7, _ => exact C q 4 hq (by decide) (by decide)
  | 8, _ => exact C q 5 hq (by decide) (by decide)
theorem eq_vt {n W H0 ne : Nat} {z : Zs} (S : SimH n W H0 ne z false z false) {v k : Nat} (hv : v < n) (hk : k < 12) : kVT z false v (H0 % W) (nI k) = mVT z v n (H0 % W) k := by
  have hw := S.wx
  have r := S.1.1 v hv
  have mm := S.1.2.1 v
  match k, hk with
  | 0, _ => exact mm 0 hv (by decide)
  | 1, _ => exact mm 1 hv (by decide)
  | 2, _ => exact mm 2 hv (by decide)
  | 3, _ => exact mm 3 hv (by decide)
  | 4, _ => exact r 4 (by decide) (by decide)
  | 5, _ => exact r 5 (by decide) (by decide)
  | 6, _ => exact r 6 (by decide) (by decide)
  | 7, _ => exact r 7 (by decide) (by decide)
  | 8, _ => exact r 8 (by decide) (by decide)
  | 9, _ => exact congrArg kParty (r 6 (by decide) (by decide))
  | 10, _ => exact S.1.wind S.2.1 hv hw
  | 11, _ => exact S.1.lee S.2.1 hv hw
theorem party_bit {d : Int32} (hd : isB 16 d) {p : Nat} (hp : p < 4) : (((((1 : Int32) <<< (nI p &&& 31)) >>> (kParty d &&& 31)) &&& (1 : Int32)) = 1 ↔ kParty d = nI p) ∧ ((((1 : Int32) <<< (nI p &&& 31)) >>> (kParty d &&& 31)) &&& (1 : Int32)) = (if kParty d = nI p then 1 else 0) := by
  obtain ⟨x, hx, rfl⟩ := hd
  have key : ∀ x, x < 16 → ∀ p, p < 4 → (((((1 : Int32) <<< (nI p &&& 31)) >>> (kParty (nI x) &&& 31)) &&& (1 : Int32)) = 1 ↔ kParty (nI x) = nI p) ∧ ((((1 : Int32) <<< (nI p &&& 31)) >>> (kParty (nI x) &&& 31)) &&& (1 : Int32)) = (if kParty (nI x) = nI p then 1 else 0) := by decide +kernel
  exact key x hx p hp
theorem all_bit {d : Int32} (hd : isB 16 d) : ((((15 : Int32)) >>> (kParty d &&& 31)) &&& (1 : Int32)) = 1 := by
  obtain ⟨x, hx, rfl⟩ := hd
  have key : ∀ x, x < 16 → ((((15 : Int32)) >>> (kParty (nI x) &&& 31)) &&& (1 : Int32)) = 1 := by decide +kernel
  exact key x hx
theorem eq_of {n W H0 ne : Nat} {z : Zs} (S : SimH n W H0 ne z false z false) {p : Nat} (hp : p < 4) : kOf z false ((1 : Int32) <<< (nI p &&& 31)) n = mPT z (nI p) 1 n ∧ kVof z false ((1 : Int32) <<< (nI p &&& 31)) n = mPT z (nI p) 0 n := by
  have r := S.1.1
  constructor
  · unfold kOf mPT
    refine sumV_c n (fun j hj => ?_)
    have e6 : z.1 (gv false) j 6 = z.1 12 j 6 := r j hj 6 (by decide) (by decide)
    have e4 : z.1 (gv false) j 4 = z.1 12 j 4 := r j hj 4 (by decide) (by decide)
    have b := (party_bit (S.2.1.2.2.2.2 j hj).2.2.1 hp).1
    rw [← e6, ← e4]
    by_cases c : kParty (z.1 (gv false) j 6) = nI p
    · rw [if_pos (b.mpr c), if_pos c, if_neg ne10]
    · rw [if_neg (fun q => c (b.mp q)), if_neg c]
  · unfold kVof mPT
    refine sumV_c n (fun j hj => ?_)
    have e6 : z.1 (gv false) j 6 = z.1 12 j 6 := r j hj 6 (by decide) (by decide)
    rw [← e6, (party_bit (S.2.1.2.2.2.2 j hj).2.2.1 hp).2]
    by_cases c : kParty (z.1 (gv false) j 6) = nI p
    · rw [if_pos c, if_pos c, if_pos rfl]
    · rw [if_neg c, if_neg c]
theorem eq_all {n W H0 ne : Nat} {z : Zs} (S : SimH n W H0 ne z false z false) : kOf z false 15 n = mCv z n := by
  unfold kOf mCv
  refine sumV_c n (fun j hj => ?_)
  rw [if_pos (all_bit (S.2.1.2.2.2.2 j hj).2.2.1)]
  exact S.1.1 j hj 4 (by decide) (by decide)
theorem eq_bound {n W H0 ne : Nat} {z : Zs} (S : SimH n W H0 ne z false z false) : kBound z false n = mCb z n := by
  unfold kBound mCb
  refine sumV_c n (fun j hj => ?_)
  rw [show z.1 (gv false) j 8 = z.1 12 j 8 from S.1.1 j hj 8 (by decide) (by decide)]
theorem eq_stuck {n W H0 ne : Nat} {z : Zs} (S : SimH n W H0 ne z false z false) : kStuck z false (H0 % W) n = mCs z n (H0 % W) n := by
  unfold kStuck mCs
  refine sumV_c n (fun j hj => ?_)
  rw [show z.1 (gv false) j 8 = z.1 12 j 8 from S.1.1 j hj 8 (by decide) (by decide), show z.1 (gv false) j 5 = z.1 12 j 5 from S.1.1 j hj 5 (by decide) (by decide), S.1.wind S.2.1 hj S.wx]
