/-! ===== the two say the same: rows and numbers ===== -/
theorem steps_apart {a b : Int32} (ha : isB 16 a) (hb : isB 16 b) : kSteps a b = kApart a b := by
  obtain ⟨x, hx, rfl⟩ := ha
  obtain ⟨y, hy, rfl⟩ := hb
  have key : ∀ x, x < 16 → ∀ y, y < 16 → kSteps (nI x) (nI y) = kApart (nI x) (nI y) := by decide +kernel
  exact key x hx y hy
theorem side_eq {dir spread d : Int32} (hd : isB 16 d) (hr : isB 16 dir) : kSide dir spread d = mSide dir spread d := by
  unfold kSide mSide
  rw [steps_apart hd hr]
theorem clamp_0 (t : Int32) : mxI (-8 : Int32) (mnI (8 : Int32) t) = 0 ↔ t = 0 := by
  constructor
  · intro h
    by_cases h1 : t < 8
    · by_cases h2 : (-8 : Int32) < t
      · have e : mxI (-8 : Int32) (mnI (8 : Int32) t) = t := by
          show (if (-8 : Int32) < (if t < 8 then t else 8) then (if t < 8 then t else 8) else -8) = t
          rw [if_pos h1, if_pos h2]
        rw [e] at h
        exact h
      · have e : mxI (-8 : Int32) (mnI (8 : Int32) t) = -8 := by
          show (if (-8 : Int32) < (if t < 8 then t else 8) then (if t < 8 then t else 8) else -8) = -8
          rw [if_pos h1, if_neg h2]
        rw [e] at h
        exact absurd h (by decide)
    · have e : mxI (-8 : Int32) (mnI (8 : Int32) t) = 8 := by
        show (if (-8 : Int32) < (if t < 8 then t else 8) then (if t < 8 then t else 8) else -8) = 8
        rw [if_neg h1, if_pos (by decide)]
      rw [e] at h
      exact absurd h (by decide)
  · rintro rfl
    decide
theorem spin_eq (spin wt pull wind rust : Int32) : kSpin spin wt pull wind rust = mSp spin wt pull wind rust := by
  show (if ((spin * wt) + (pull * wind)) / ((wt + (4 : Int32)) + rust) = 0 then kSig pull else mxI (-8 : Int32) (mnI (8 : Int32) (((spin * wt) + (pull * wind)) / ((wt + (4 : Int32)) + rust)))) = (if mxI (-8 : Int32) (mnI (8 : Int32) (((spin * wt) + (pull * wind)) / ((wt + (4 : Int32)) + rust))) = 0 then kSig pull else mxI (-8 : Int32) (mnI (8 : Int32) (((spin * wt) + (pull * wind)) / ((wt + (4 : Int32)) + rust))))
  generalize ((spin * wt) + (pull * wind)) / ((wt + (4 : Int32)) + rust) = t0
  by_cases c : t0 = 0
  · rw [if_pos c, if_pos ((clamp_0 t0).mpr c)]
  · rw [if_neg c, if_neg (fun q => c ((clamp_0 t0).mp q))]
theorem mod_eq {d s : Int32} (hd : isB 16 d) (hs : isS s) : kMod (d + s) = rem16 ((d + s) + (16 : Int32)) := by
  obtain ⟨x, hx, rfl⟩ := hd
  obtain ⟨y, hy, rfl⟩ := hs
  have key : ∀ x, x < 16 → ∀ y, y < 17 → kMod (nI x + (nI y - 8)) = rem16 ((nI x + (nI y - 8)) + (16 : Int32)) := by decide +kernel
  exact key x hx y hy
/-- the rows of a vane agree -/
def SR (r s : Nat → Int32) : Prop := ∀ k, 4 ≤ k → k < 10 → r k = s k
theorem SR.u {r s : Nat → Int32} (h : SR r s) (i : Nat) {x y : Int32} (e : x = y) : SR (u1 r i x) (u1 s i y) := by
  intro k h4 h10
  unfold u1
  by_cases c : k = i
  · rw [if_pos c, if_pos c, e]
  · rw [if_neg c, if_neg c]
    exact h k h4 h10
theorem SR.oil {r s : Nat → Int32} (h : SR r s) : SR (rOil r) (rOil s) := (h.u 5 rfl).u 9 rfl
theorem SR.rain {r s : Nat → Int32} (h : SR r s) : SR (rRain r) (rRain s) := by
  unfold rRain
  rw [h 9 (by decide) (by decide), h 5 (by decide) (by decide)]
  by_cases c : (s 9 + 1) - (s 9 + 1) / (2 : Int32) * (2 : Int32) = (1 : Int32)
  · rw [if_pos c, if_pos c]
    exact (h.u 9 rfl).u 5 rfl
  · rw [if_neg c, if_neg c]
    exact h.u 9 rfl
theorem SR.eff {r s : Nat → Int32} (h : SR r s) (hv : VB r) (eff side : Int32) : SR (rEff eff side r) (mEf eff side s) := by
  unfold rEff mEf
  by_cases c1 : eff = 1 ∧ side = 1
  · rw [if_pos c1, if_pos c1]
    exact h.oil
  · rw [if_neg c1, if_neg c1]
    by_cases c2 : eff = 2 ∧ side = -1
    · rw [if_pos c2, if_pos c2]
      refine h.u 8 ?_
      rw [← h 8 (by decide) (by decide)]
      obtain ⟨x, hx, e⟩ := hv.2.2.2.2
      rw [e]
      have key : ∀ x, x < 5 → mxI (nI x) (4 : Int32) = mxI (4 : Int32) (nI x) := by decide +kernel
      exact key x hx
    · rw [if_neg c2, if_neg c2]
      by_cases c3 : eff = 3
      · rw [if_pos c3, if_pos c3]
        exact h.u 4 (by rw [h 4 (by decide) (by decide)])
      · rw [if_neg c3, if_neg c3]
        exact h
theorem SR.blow {r s : Nat → Int32} (h : SR r s) (hv : VB r) {wt wind dir : Int32} (hw : wt = s 3) (hd : isB 16 dir) : SR (rBlow wt wind (kSteps (r 6) dir) r) (mRow wind dir s) := by
  have e5 := h 5 (by decide) (by decide)
  have e6 := h 6 (by decide) (by decide)
  have e7 := h 7 (by decide) (by decide)
  have e8 := h 8 (by decide) (by decide)
  obtain ⟨x, hx, ex⟩ := hv.2.2.2.2
  have hS : isS (mSp (r 7) wt (kSteps (r 6) dir) wind (r 5)) := by
    rw [← spin_eq]
    exact kSpin_S (kSteps_in hv.2.2.1 hd)
  unfold rBlow mRow
  rw [spin_eq, ← e5, ← e6, ← e7, ← e8, ← hw, ← steps_apart hv.2.2.1 hd]
  by_cases c : r 8 ≤ 0
  · have c' : ¬ 0 < r 8 := fun q => absurd c (Int32.not_le.mpr q)
    rw [if_pos c, if_neg c']
    by_cases c2 : r 5 < wind
    · rw [if_pos c2, if_pos c2]
      exact (h.u 7 rfl).u 6 (mod_eq hv.2.2.1 hS)
    · rw [if_neg c2, if_neg c2]
      refine SR.u ?_ 7 rfl
      intro k h4 h10
      unfold u1
      by_cases q : k = 8
      · rw [if_pos q, q]
        rw [ex] at c ⊢
        have key : ∀ x, x < 5 → nI x ≤ 0 → nI x = mxI (0 : Int32) (nI x - (1 : Int32)) := by decide +kernel
        exact key x hx c
      · rw [if_neg q]
        exact h k h4 h10
  · have c' : 0 < r 8 := Int32.not_le.mp c
    rw [if_neg c, if_pos c']
    refine (h.u 8 ?_).u 7 rfl
    rw [ex] at c ⊢
    have key : ∀ x, x < 5 → ¬ nI x ≤ 0 → nI x - 1 = mxI (0 : Int32) (nI x - (1 : Int32)) := by decide +kernel
    exact key x hx c
/-- sums -/
theorem sumV_c {f g : Nat → Int32} : ∀ n, (∀ j, j < n → f j = g j) → sumV f n = sumV g n := by
  intro n
  induction n with
  | zero => intro _; rfl
  | succ n ih =>
    intro h
    rw [sumV, sumV, ih (fun j hj => h j (by omega)), h n (by omega)]
theorem sumV_add (f g : Nat → Int32) : ∀ n, sumV f n + sumV g n = sumV (fun j => f j + g j) n := by
  intro n
  induction n with
  | zero => rfl
  | succ n ih =>
    show (sumV f n + f n) + (sumV g n + g n) = sumV (fun j => f j + g j) n + (f n + g n)
    rw [← ih, Int32.add_assoc, Int32.add_assoc, ← Int32.add_assoc (f n), Int32.add_comm (f n), Int32.add_assoc (sumV g n)]
theorem sumV_B {f : Nat → Int32} {K : Nat} : ∀ n, (∀ j, j < n → isB (K + 1) (f j)) → isB (K * n + 1) (sumV f n) := by
  intro n
  induction n with
  | zero => intro _; exact ⟨0, by omega, rfl⟩
  | succ n ih =>
    intro h
    obtain ⟨x, hx, ex⟩ := ih (fun j hj => h j (by omega))
    obtain ⟨y, hy, ey⟩ := h n (by omega)
    refine ⟨x + y, ?_, ?_⟩
    · rw [Nat.mul_succ]
      omega
    · rw [sumV, ex, ey, nI_add]
/-- votes: carried, or would -/
theorem carr_eq {F V : Nat → Int32} {q : Int32} {n : Nat} (h16 : n ≤ 16) (hT : ∀ j, j < n → isT (F j)) (hV : ∀ j, j < n → isB 10 (V j)) :
    (if sumV (fun j => V j * abI (F j)) n < q then (0 : Int32) else if sumV (fun j => V j * F j) n ≤ 0 then 0 else 1) =
    (if sumV (fun j => if F j = 1 then V j else 0) n + sumV (fun j => if F j = -1 then V j else 0) n < q then 0 else if sumV (fun j => if F j = 1 then V j else 0) n ≤ sumV (fun j => if F j = -1 then V j else 0) n then 0 else 1) := by
  have m1 : ∀ x : Int32, x * abI 1 = x := fun x => by rw [show abI (1 : Int32) = 1 from by decide, Int32.mul_one]
  have m0 : ∀ x : Int32, x * abI 0 = 0 := fun x => by rw [show abI (0 : Int32) = 0 from by decide, Int32.mul_zero]
  have mm : ∀ x : Int32, x * abI (-1) = x := fun x => by rw [show abI (-1 : Int32) = 1 from by decide, Int32.mul_one]
  have e1 : sumV (fun j => V j * abI (F j)) n = sumV (fun j => if F j = 1 then V j else 0) n + sumV (fun j => if F j = -1 then V j else 0) n := by
    rw [sumV_add]
    refine sumV_c n (fun j hj => ?_)
    rcases hT j hj with e | e | e <;> rw [e]
    · rw [m1, if_pos rfl, if_neg (by decide), Int32.add_zero]
    · rw [m0, if_neg (by decide), if_neg (by decide), Int32.add_zero]
    · rw [mm, if_neg (by decide), if_pos rfl, Int32.zero_add]
  have e2 : sumV (fun j => V j * F j) n + sumV (fun j => if F j = -1 then V j else 0) n = sumV (fun j => if F j = 1 then V j else 0) n := by
    rw [sumV_add]
    refine sumV_c n (fun j hj => ?_)
    rcases hT j hj with e | e | e <;> rw [e]
    · rw [Int32.mul_one, if_pos rfl, if_neg (by decide), Int32.add_zero]
    · rw [Int32.mul_zero, if_neg (by decide), if_neg (by decide), Int32.add_zero]
    · rw [if_pos rfl, if_neg (by decide), Int32.mul_neg, Int32.mul_one, Int32.add_left_neg]
  have B1 : isB (9 * n + 1) (sumV (fun j => if F j = 1 then V j else 0) n) := sumV_B (K := 9) n (fun j hj => by
    by_cases c : F j = 1
    · rw [if_pos c]; exact hV j hj
    · rw [if_neg c]; exact isB_0 (by decide))
  have B2 : isB (9 * n + 1) (sumV (fun j => if F j = -1 then V j else 0) n) := sumV_B (K := 9) n (fun j hj => by
    by_cases c : F j = -1
    · rw [if_pos c]; exact hV j hj
    · rw [if_neg c]; exact isB_0 (by decide))
  rw [e1]
  obtain ⟨a, ha, ea⟩ := B1
  obtain ⟨b, hb, eb⟩ := B2
  have e3 : sumV (fun j => V j * F j) n = nI a - nI b := by rw [← ea, ← eb, ← e2, Int32.add_sub_cancel]
  rw [ea, eb]
  have e4 : (nI a - nI b ≤ 0) ↔ nI a ≤ nI b := by
    rw [Int32.le_iff_toInt_le, Int32.le_iff_toInt_le, pk_sub_toInt (by omega) (by omega), nI_toInt (by omega), nI_toInt (by omega), show (0 : Int32).toInt = 0 from rfl]
    omega
  rw [e3]
  by_cases c : nI a + nI b < q
  · rw [if_pos c, if_pos c]
  · rw [if_neg c, if_neg c]
    by_cases c2 : nI a ≤ nI b
    · rw [if_pos c2, if_pos (e4.mpr c2)]
    · rw [if_neg c2, if_neg (fun x => c2 (e4.mp x))]
