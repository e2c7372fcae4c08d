/-! ===== what is left of the class's agenda ===== -/
theorem rowL_c {f g : Nat → Nat → Int32} : ∀ d k l, (∀ i, i < d → f (k + i) = g (l + i)) → rowL f d k = rowL g d l := by
  intro d
  induction d with
  | zero => intro k l _; rfl
  | succ d ih =>
    intro k l h
    have h0 := h 0 (by omega)
    rw [Nat.add_zero, Nat.add_zero] at h0
    rw [rowL, rowL, h0, ih (k + 1) (l + 1) (fun i hi => by
      have := h (i + 1) (by omega)
      rw [show k + 1 + i = k + (i + 1) by omega, show l + 1 + i = l + (i + 1) by omega]
      exact this)]
theorem rowL_s (f : Nat → Nat → Int32) : ∀ d k, rowL f (d + 1) k = rowL f d k ++ [(f (k + d) 0, f (k + d) 1)] := by
  intro d
  induction d with
  | zero => intro k; rfl
  | succ d ih =>
    intro k
    rw [rowL, ih (k + 1), rowL, show k + 1 + d = k + (d + 1) by omega]
    rfl
theorem dropZ_L (H : Int32) : ∀ k z, k ≤ z.2.1 2 → rowL ((dropZ H k z).1 3) ((dropZ H k z).2.1 2) 0 = (rowL (z.1 3) k 0).filter (fun e => decide (H ≤ e.2)) ++ rowL (z.1 3) (z.2.1 2 - k) k := by
  intro k
  induction k with
  | zero => intro z _; rfl
  | succ k ih =>
    intro z hk
    rw [dropZ]
    have hr : ∃ d, z.2.1 2 = k + 1 + d := ⟨z.2.1 2 - (k + 1), by omega⟩
    obtain ⟨d, hd⟩ := hr
    by_cases c : H ≤ z.1 3 k 1
    · rw [if_pos c, ih z (by omega), rowL_s, List.filter_append, Nat.zero_add, hd, show k + 1 + d - k = d + 1 by omega, show k + 1 + d - (k + 1) = d by omega, rowL]
      simp [c]
    · rw [if_neg c, ih (rmZ z k) (by show k ≤ z.2.1 2 - 1; omega)]
      have e1 : rowL ((rmZ z k).1 3) k 0 = rowL (z.1 3) k 0 := rowL_c k 0 0 (fun i hi => by
        show sh k (z.1 3) (0 + i) = _
        unfold sh
        rw [if_pos (by omega)])
      have e2 : (rmZ z k).2.1 2 - k = d := by show z.2.1 2 - 1 - k = d; omega
      have e3 : rowL ((rmZ z k).1 3) d k = rowL (z.1 3) d (k + 1) := rowL_c d k (k + 1) (fun i hi => by
        show sh k (z.1 3) (k + i) = _
        unfold sh
        rw [if_neg (by omega), show k + i + 1 = k + 1 + i by omega])
      rw [e1, e2, e3, rowL_s, List.filter_append, Nat.zero_add, hd, show k + 1 + d - (k + 1) = d by omega]
      simp [c]
/-- what dropping leaves: all but the agenda as it was -/
theorem dropZ_g (H : Int32) {g : Nat} (h3 : ¬ g = 3) (h8 : ¬ g = 8) : ∀ k z, (dropZ H k z).1 g = z.1 g := by
  intro k
  induction k with
  | zero => intro z; rfl
  | succ k ih =>
    intro z
    rw [dropZ, ih]
    split
    · rfl
    · exact rmZ_g z k h3 h8
theorem dropZ_c (H : Int32) {g : Nat} (h3 : ¬ g = 52) (h8 : ¬ g = 2) : ∀ k z, (dropZ H k z).2.1 g = z.2.1 g := by
  intro k
  induction k with
  | zero => intro z; rfl
  | succ k ih =>
    intro z
    rw [dropZ, ih]
    split
    · rfl
    · exact rmZ_c z k h3 h8
theorem dropZ_n (H : Int32) : ∀ k z, z.2.1 52 = z.2.1 2 → (dropZ H k z).2.1 52 = (dropZ H k z).2.1 2 := by
  intro k
  induction k with
  | zero => intro z h; exact h
  | succ k ih =>
    intro z h
    rw [dropZ]
    split
    · exact ih z h
    · exact ih (rmZ z k) (by show z.2.1 52 - 1 = z.2.1 2 - 1; rw [h])
theorem dropZ_ad (H : Int32) (l : Lb) (hl : ∀ i, ¬ l = bae i) : ∀ k z, (dropZ H k z).2.2.2 l = z.2.2.2 l := by
  intro k
  induction k with
  | zero => intro z; rfl
  | succ k ih =>
    intro z
    rw [dropZ, ih]
    split
    · rfl
    · show z.2.2.2 (shL k l) = _
      rw [shL_o k l hl]
