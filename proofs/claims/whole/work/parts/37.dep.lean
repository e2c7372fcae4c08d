/-! ===== what is written, and what stays ===== -/
theorem u1_s {α : Type} (f : Nat → α) (i : Nat) (x : α) : u1 f i x i = x := if_pos rfl
theorem u1_n {α : Type} (f : Nat → α) {i j : Nat} (x : α) (h : ¬ j = i) : u1 f i x j = f j := if_neg h
theorem uG_s (z : Zs) (g : Nat) (F : Nat → Nat → Int32) : (uG z g F).1 g = F := if_pos rfl
theorem uG_n (z : Zs) {g a : Nat} (F : Nat → Nat → Int32) (h : ¬ a = g) : (uG z g F).1 a = z.1 a := if_neg h
theorem uG_2 (z : Zs) (g : Nat) (F : Nat → Nat → Int32) : (uG z g F).2 = z.2 := rfl
theorem uG_uG (z : Zs) (g : Nat) (F F' : Nat → Nat → Int32) : uG (uG z g F) g F' = uG z g F' := by
  unfold uG
  congr 1
  funext a
  by_cases e : a = g <;> simp [e]
theorem uG_id (z : Zs) (g : Nat) : uG z g (z.1 g) = z := by
  unfold uG
  refine Prod.ext ?_ rfl
  funext a
  by_cases e : a = g <;> simp [e]
theorem uR_s (z : Zs) (g i : Nat) (r : Nat → Int32) : (uR z g i r).1 g i = r := by
  unfold uR
  rw [uG_s, u1_s]
theorem uR_n (z : Zs) {g i a j : Nat} (r : Nat → Int32) (h : ¬ (a = g ∧ j = i)) : (uR z g i r).1 a j = z.1 a j := by
  unfold uR
  by_cases e : a = g
  · subst e
    rw [uG_s, u1_n]
    exact fun q => h ⟨rfl, q⟩
  · rw [uG_n _ _ e]
theorem uR_2 (z : Zs) (g i : Nat) (r : Nat → Int32) : (uR z g i r).2 = z.2 := rfl
theorem u1_u1 {α : Type} (f : Nat → α) (i : Nat) (x y : α) : u1 (u1 f i x) i y = u1 f i y := by
  funext a
  unfold u1
  by_cases e : a = i <;> simp [e]
theorem uR_uR (z : Zs) (g i : Nat) (r r' : Nat → Int32) : uR (uR z g i r) g i r' = uR z g i r' := by
  unfold uR
  rw [uG_uG, uG_s, u1_u1]
theorem uI_s (z : Zs) (g i k : Nat) (x : Int32) : (uI z g i k x).1 g i = u1 (z.1 g i) k x := uR_s _ _ _ _
theorem uI_2 (z : Zs) (g i k : Nat) (x : Int32) : (uI z g i k x).2 = z.2 := rfl
/-- the rows that a place's content speaks of -/
def dep : Lb → Nat → Nat → Prop
  | .inl _ => fun g a => g = 0 ∧ a = 0
  | .inr (.inl _) => fun g a => g = 0 ∧ a = 1
  | .inr (.inr (.inl _)) => fun _ _ => False
  | .inr (.inr (.inr (.inl _))) => fun _ _ => False
  | .inr (.inr (.inr (.inr (.inl b)))) => fun g a => g = gm b 0 ∧ a = 0
  | .inr (.inr (.inr (.inr (.inr (.inl k))))) => fun g a => g = 8 ∧ a = k
  | .inr (.inr (.inr (.inr (.inr (.inr (.inl _)))))) => fun _ _ => False
  | .inr (.inr (.inr (.inr (.inr (.inr (.inr (.inl i))))))) => fun g a => g = 1 ∧ a = i
  | .inr (.inr (.inr (.inr (.inr (.inr (.inr (.inr (.inl i)))))))) => fun g a => g = 2 ∧ a = i
  | .inr (.inr (.inr (.inr (.inr (.inr (.inr (.inr (.inr (.inl i))))))))) => fun g a => g = 3 ∧ a = i
  | .inr (.inr (.inr (.inr (.inr (.inr (.inr (.inr (.inr (.inr (.inl i)))))))))) => fun g a => g = 4 ∧ a = i
  | .inr (.inr (.inr (.inr (.inr (.inr (.inr (.inr (.inr (.inr (.inr (.inl i))))))))))) => fun g a => g = 5 ∧ a = i
  | .inr (.inr (.inr (.inr (.inr (.inr (.inr (.inr (.inr (.inr (.inr (.inr (.inl (b, i))))))))))))) => fun g a => g = gv b ∧ a = i
  | .inr (.inr (.inr (.inr (.inr (.inr (.inr (.inr (.inr (.inr (.inr (.inr (.inr (b, k))))))))))))) => fun g a => (k < 3 ∧ g = gm b 1 ∧ a = k) ∨ (k = 3 ∧ g = gm b 2) ∨ (k = 4 ∧ g = gm b 3) ∨ (k = 5 ∧ g = gm b 4)
theorem ct_dep {G : GE} {z z' : Zs} (h2 : z'.2 = z.2) (l : Lb) (hg : ∀ g a, dep l g a → z'.1 g a = z.1 g a) : ct G z' l = ct G z l := by
  obtain ⟨zI, zz⟩ := z
  obtain ⟨zI', zz'⟩ := z'
  cases h2
  have hg : ∀ g a, dep l g a → zI' g a = zI g a := hg
  rcases l with u|u|u|c|c|k|k|j|j|j|j|j|⟨c, j⟩|⟨c, k⟩
  · simp only [ct, hg 0 0 ⟨rfl, rfl⟩]
  · simp only [ct, hg 0 1 ⟨rfl, rfl⟩]
  · rfl
  · rfl
  · simp only [ct, hg (gm c 0) 0 ⟨rfl, rfl⟩]
  · simp only [ct, hg 8 k ⟨rfl, rfl⟩]
  · rfl
  · simp only [ct, hg 1 j ⟨rfl, rfl⟩]
  · simp only [ct, hg 2 j ⟨rfl, rfl⟩]
  · simp only [ct, hg 3 j ⟨rfl, rfl⟩]
  · simp only [ct, hg 4 j ⟨rfl, rfl⟩]
  · simp only [ct, hg 5 j ⟨rfl, rfl⟩]
  · simp only [ct, hg (gv c) j ⟨rfl, rfl⟩]
  · match k with
    | 0 => simp only [ct, saC, hg (gm c 1) 0 (Or.inl ⟨by decide, rfl, rfl⟩)]
    | 1 => simp only [ct, saC, hg (gm c 1) 1 (Or.inl ⟨by decide, rfl, rfl⟩)]
    | 2 => simp only [ct, saC, hg (gm c 1) 2 (Or.inl ⟨by decide, rfl, rfl⟩)]
    | 3 =>
      have : zI' (gm c 2) = zI (gm c 2) := funext fun a => hg _ a (Or.inr (Or.inl ⟨rfl, rfl⟩))
      simp only [ct, saC, this]
    | 4 =>
      have : zI' (gm c 3) = zI (gm c 3) := funext fun a => hg _ a (Or.inr (Or.inr (Or.inl ⟨rfl, rfl⟩)))
      simp only [ct, saC, this]
    | 5 =>
      have : zI' (gm c 4) = zI (gm c 4) := funext fun a => hg _ a (Or.inr (Or.inr (Or.inr ⟨rfl, rfl⟩)))
      simp only [ct, saC, this]
    | k + 6 => rfl
theorem gv_lt (b : Bool) : gv b = 6 ∨ gv b = 7 := by cases b <;> simp [gv]
theorem gm_ge (b : Bool) (j : Nat) : 10 ≤ gm b j := by cases b <;> simp only [gm] <;> omega
theorem gv_in {b c : Bool} (h : gv b = gv c) : b = c := by cases b <;> cases c <;> first | rfl | cases h
theorem gm_in {b c : Bool} {j k : Nat} (hj : j < 10) (hk : k < 10) (h : gm b j = gm c k) : b = c ∧ j = k := by
  cases b <;> cases c <;> simp only [gm] at h <;> first | exact ⟨rfl, by omega⟩ | (exfalso; omega)
theorem d_V  {l : Lb} (h : dep l 0 0) : l = bV := by
  rcases l with u|u|u|c|c|k'|k'|j|j|j|j|j|⟨c, j⟩|⟨c, k'⟩
  all_goals first
    | exact h.elim
    | (obtain ⟨h1, h2⟩ := h; exfalso; omega)
    | (obtain ⟨h1, h2⟩ := h; have h3 := gm_ge c 0; exfalso; omega)
    | (obtain ⟨h1, h2⟩ := h; have h3 := gv_lt c; exfalso; omega)
    | (have h3 := gm_ge c 1; have h4 := gm_ge c 2; have h5 := gm_ge c 3; have h7 := gm_ge c 4; rcases h with ⟨-, h1, -⟩ | ⟨-, h1⟩ | ⟨-, h1⟩ | ⟨-, h1⟩ <;> (exfalso; omega))
    | (obtain ⟨h1, h2⟩ := h; first | (cases h2; rfl) | (cases gv_in h1; cases h2; rfl) | (cases (gm_in (by decide) (by decide) h1).1; rfl) | exact absurd (gm_in (by decide) (by decide) h1).2 (by decide))
    | (rcases h with ⟨-, h1, h2⟩ | ⟨h2, h1⟩ | ⟨h2, h1⟩ | ⟨h2, h1⟩ <;> (obtain ⟨e1, e2⟩ := gm_in (by decide) (by decide) h1; first | exact absurd e2 (by decide) | (cases e1; cases h2; rfl)))
theorem d_X  {l : Lb} (h : dep l 0 1) : l = bX := by
  rcases l with u|u|u|c|c|k'|k'|j|j|j|j|j|⟨c, j⟩|⟨c, k'⟩
  all_goals first
    | exact h.elim
    | (obtain ⟨h1, h2⟩ := h; exfalso; omega)
    | (obtain ⟨h1, h2⟩ := h; have h3 := gm_ge c 0; exfalso; omega)
    | (obtain ⟨h1, h2⟩ := h; have h3 := gv_lt c; exfalso; omega)
    | (have h3 := gm_ge c 1; have h4 := gm_ge c 2; have h5 := gm_ge c 3; have h7 := gm_ge c 4; rcases h with ⟨-, h1, -⟩ | ⟨-, h1⟩ | ⟨-, h1⟩ | ⟨-, h1⟩ <;> (exfalso; omega))
    | (obtain ⟨h1, h2⟩ := h; first | (cases h2; rfl) | (cases gv_in h1; cases h2; rfl) | (cases (gm_in (by decide) (by decide) h1).1; rfl) | exact absurd (gm_in (by decide) (by decide) h1).2 (by decide))
    | (rcases h with ⟨-, h1, h2⟩ | ⟨h2, h1⟩ | ⟨h2, h1⟩ | ⟨h2, h1⟩ <;> (obtain ⟨e1, e2⟩ := gm_in (by decide) (by decide) h1; first | exact absurd e2 (by decide) | (cases e1; cases h2; rfl)))
theorem d_st (b : Bool) {l : Lb} (h : dep l (gm b 0) 0) : l = (bst b) := by
  have h6 := gm_ge b 0
  rcases l with u|u|u|c|c|k'|k'|j|j|j|j|j|⟨c, j⟩|⟨c, k'⟩
  all_goals first
    | exact h.elim
    | (obtain ⟨h1, h2⟩ := h; exfalso; omega)
    | (obtain ⟨h1, h2⟩ := h; have h3 := gm_ge c 0; exfalso; omega)
    | (obtain ⟨h1, h2⟩ := h; have h3 := gv_lt c; exfalso; omega)
    | (have h3 := gm_ge c 1; have h4 := gm_ge c 2; have h5 := gm_ge c 3; have h7 := gm_ge c 4; rcases h with ⟨-, h1, -⟩ | ⟨-, h1⟩ | ⟨-, h1⟩ | ⟨-, h1⟩ <;> (exfalso; omega))
    | (obtain ⟨h1, h2⟩ := h; first | (cases h2; rfl) | (cases gv_in h1; cases h2; rfl) | (cases (gm_in (by decide) (by decide) h1).1; rfl) | exact absurd (gm_in (by decide) (by decide) h1).2 (by decide))
    | (rcases h with ⟨-, h1, h2⟩ | ⟨h2, h1⟩ | ⟨h2, h1⟩ | ⟨h2, h1⟩ <;> (obtain ⟨e1, e2⟩ := gm_in (by decide) (by decide) h1; first | exact absurd e2 (by decide) | (cases e1; cases h2; rfl)))
theorem d_L (k : Nat) {l : Lb} (h : dep l 8 k) : l = (bL k) := by
  rcases l with u|u|u|c|c|k'|k'|j|j|j|j|j|⟨c, j⟩|⟨c, k'⟩
  all_goals first
    | exact h.elim
    | (obtain ⟨h1, h2⟩ := h; exfalso; omega)
    | (obtain ⟨h1, h2⟩ := h; have h3 := gm_ge c 0; exfalso; omega)
    | (obtain ⟨h1, h2⟩ := h; have h3 := gv_lt c; exfalso; omega)
    | (have h3 := gm_ge c 1; have h4 := gm_ge c 2; have h5 := gm_ge c 3; have h7 := gm_ge c 4; rcases h with ⟨-, h1, -⟩ | ⟨-, h1⟩ | ⟨-, h1⟩ | ⟨-, h1⟩ <;> (exfalso; omega))
    | (obtain ⟨h1, h2⟩ := h; first | (cases h2; rfl) | (cases gv_in h1; cases h2; rfl) | (cases (gm_in (by decide) (by decide) h1).1; rfl) | exact absurd (gm_in (by decide) (by decide) h1).2 (by decide))
    | (rcases h with ⟨-, h1, h2⟩ | ⟨h2, h1⟩ | ⟨h2, h1⟩ | ⟨h2, h1⟩ <;> (obtain ⟨e1, e2⟩ := gm_in (by decide) (by decide) h1; first | exact absurd e2 (by decide) | (cases e1; cases h2; rfl)))
theorem d_wn (i : Nat) {l : Lb} (h : dep l 1 i) : l = (bwn i) := by
  rcases l with u|u|u|c|c|k'|k'|j|j|j|j|j|⟨c, j⟩|⟨c, k'⟩
  all_goals first
    | exact h.elim
    | (obtain ⟨h1, h2⟩ := h; exfalso; omega)
    | (obtain ⟨h1, h2⟩ := h; have h3 := gm_ge c 0; exfalso; omega)
    | (obtain ⟨h1, h2⟩ := h; have h3 := gv_lt c; exfalso; omega)
    | (have h3 := gm_ge c 1; have h4 := gm_ge c 2; have h5 := gm_ge c 3; have h7 := gm_ge c 4; rcases h with ⟨-, h1, -⟩ | ⟨-, h1⟩ | ⟨-, h1⟩ | ⟨-, h1⟩ <;> (exfalso; omega))
    | (obtain ⟨h1, h2⟩ := h; first | (cases h2; rfl) | (cases gv_in h1; cases h2; rfl) | (cases (gm_in (by decide) (by decide) h1).1; rfl) | exact absurd (gm_in (by decide) (by decide) h1).2 (by decide))
    | (rcases h with ⟨-, h1, h2⟩ | ⟨h2, h1⟩ | ⟨h2, h1⟩ | ⟨h2, h1⟩ <;> (obtain ⟨e1, e2⟩ := gm_in (by decide) (by decide) h1; first | exact absurd e2 (by decide) | (cases e1; cases h2; rfl)))
theorem d_mo (i : Nat) {l : Lb} (h : dep l 2 i) : l = (bmo i) := by
  rcases l with u|u|u|c|c|k'|k'|j|j|j|j|j|⟨c, j⟩|⟨c, k'⟩
  all_goals first
    | exact h.elim
    | (obtain ⟨h1, h2⟩ := h; exfalso; omega)
    | (obtain ⟨h1, h2⟩ := h; have h3 := gm_ge c 0; exfalso; omega)
    | (obtain ⟨h1, h2⟩ := h; have h3 := gv_lt c; exfalso; omega)
    | (have h3 := gm_ge c 1; have h4 := gm_ge c 2; have h5 := gm_ge c 3; have h7 := gm_ge c 4; rcases h with ⟨-, h1, -⟩ | ⟨-, h1⟩ | ⟨-, h1⟩ | ⟨-, h1⟩ <;> (exfalso; omega))
    | (obtain ⟨h1, h2⟩ := h; first | (cases h2; rfl) | (cases gv_in h1; cases h2; rfl) | (cases (gm_in (by decide) (by decide) h1).1; rfl) | exact absurd (gm_in (by decide) (by decide) h1).2 (by decide))
    | (rcases h with ⟨-, h1, h2⟩ | ⟨h2, h1⟩ | ⟨h2, h1⟩ | ⟨h2, h1⟩ <;> (obtain ⟨e1, e2⟩ := gm_in (by decide) (by decide) h1; first | exact absurd e2 (by decide) | (cases e1; cases h2; rfl)))
theorem d_ae (i : Nat) {l : Lb} (h : dep l 3 i) : l = (bae i) := by
  rcases l with u|u|u|c|c|k'|k'|j|j|j|j|j|⟨c, j⟩|⟨c, k'⟩
  all_goals first
    | exact h.elim
    | (obtain ⟨h1, h2⟩ := h; exfalso; omega)
    | (obtain ⟨h1, h2⟩ := h; have h3 := gm_ge c 0; exfalso; omega)
    | (obtain ⟨h1, h2⟩ := h; have h3 := gv_lt c; exfalso; omega)
    | (have h3 := gm_ge c 1; have h4 := gm_ge c 2; have h5 := gm_ge c 3; have h7 := gm_ge c 4; rcases h with ⟨-, h1, -⟩ | ⟨-, h1⟩ | ⟨-, h1⟩ | ⟨-, h1⟩ <;> (exfalso; omega))
    | (obtain ⟨h1, h2⟩ := h; first | (cases h2; rfl) | (cases gv_in h1; cases h2; rfl) | (cases (gm_in (by decide) (by decide) h1).1; rfl) | exact absurd (gm_in (by decide) (by decide) h1).2 (by decide))
    | (rcases h with ⟨-, h1, h2⟩ | ⟨h2, h1⟩ | ⟨h2, h1⟩ | ⟨h2, h1⟩ <;> (obtain ⟨e1, e2⟩ := gm_in (by decide) (by decide) h1; first | exact absurd e2 (by decide) | (cases e1; cases h2; rfl)))
theorem d_ms (i : Nat) {l : Lb} (h : dep l 4 i) : l = (bms i) := by
  rcases l with u|u|u|c|c|k'|k'|j|j|j|j|j|⟨c, j⟩|⟨c, k'⟩
  all_goals first
    | exact h.elim
    | (obtain ⟨h1, h2⟩ := h; exfalso; omega)
    | (obtain ⟨h1, h2⟩ := h; have h3 := gm_ge c 0; exfalso; omega)
    | (obtain ⟨h1, h2⟩ := h; have h3 := gv_lt c; exfalso; omega)
    | (have h3 := gm_ge c 1; have h4 := gm_ge c 2; have h5 := gm_ge c 3; have h7 := gm_ge c 4; rcases h with ⟨-, h1, -⟩ | ⟨-, h1⟩ | ⟨-, h1⟩ | ⟨-, h1⟩ <;> (exfalso; omega))
    | (obtain ⟨h1, h2⟩ := h; first | (cases h2; rfl) | (cases gv_in h1; cases h2; rfl) | (cases (gm_in (by decide) (by decide) h1).1; rfl) | exact absurd (gm_in (by decide) (by decide) h1).2 (by decide))
    | (rcases h with ⟨-, h1, h2⟩ | ⟨h2, h1⟩ | ⟨h2, h1⟩ | ⟨h2, h1⟩ <;> (obtain ⟨e1, e2⟩ := gm_in (by decide) (by decide) h1; first | exact absurd e2 (by decide) | (cases e1; cases h2; rfl)))
theorem d_ho (i : Nat) {l : Lb} (h : dep l 5 i) : l = (bho i) := by
  rcases l with u|u|u|c|c|k'|k'|j|j|j|j|j|⟨c, j⟩|⟨c, k'⟩
  all_goals first
    | exact h.elim
    | (obtain ⟨h1, h2⟩ := h; exfalso; omega)
    | (obtain ⟨h1, h2⟩ := h; have h3 := gm_ge c 0; exfalso; omega)
    | (obtain ⟨h1, h2⟩ := h; have h3 := gv_lt c; exfalso; omega)
    | (have h3 := gm_ge c 1; have h4 := gm_ge c 2; have h5 := gm_ge c 3; have h7 := gm_ge c 4; rcases h with ⟨-, h1, -⟩ | ⟨-, h1⟩ | ⟨-, h1⟩ | ⟨-, h1⟩ <;> (exfalso; omega))
    | (obtain ⟨h1, h2⟩ := h; first | (cases h2; rfl) | (cases gv_in h1; cases h2; rfl) | (cases (gm_in (by decide) (by decide) h1).1; rfl) | exact absurd (gm_in (by decide) (by decide) h1).2 (by decide))
    | (rcases h with ⟨-, h1, h2⟩ | ⟨h2, h1⟩ | ⟨h2, h1⟩ | ⟨h2, h1⟩ <;> (obtain ⟨e1, e2⟩ := gm_in (by decide) (by decide) h1; first | exact absurd e2 (by decide) | (cases e1; cases h2; rfl)))
theorem d_vn (b : Bool) (i : Nat) {l : Lb} (h : dep l (gv b) i) : l = (bvn b i) := by
  have h6 := gv_lt b
  rcases l with u|u|u|c|c|k'|k'|j|j|j|j|j|⟨c, j⟩|⟨c, k'⟩
  all_goals first
    | exact h.elim
    | (obtain ⟨h1, h2⟩ := h; exfalso; omega)
    | (obtain ⟨h1, h2⟩ := h; have h3 := gm_ge c 0; exfalso; omega)
    | (obtain ⟨h1, h2⟩ := h; have h3 := gv_lt c; exfalso; omega)
    | (have h3 := gm_ge c 1; have h4 := gm_ge c 2; have h5 := gm_ge c 3; have h7 := gm_ge c 4; rcases h with ⟨-, h1, -⟩ | ⟨-, h1⟩ | ⟨-, h1⟩ | ⟨-, h1⟩ <;> (exfalso; omega))
    | (obtain ⟨h1, h2⟩ := h; first | (cases h2; rfl) | (cases gv_in h1; cases h2; rfl) | (cases (gm_in (by decide) (by decide) h1).1; rfl) | exact absurd (gm_in (by decide) (by decide) h1).2 (by decide))
    | (rcases h with ⟨-, h1, h2⟩ | ⟨h2, h1⟩ | ⟨h2, h1⟩ | ⟨h2, h1⟩ <;> (obtain ⟨e1, e2⟩ := gm_in (by decide) (by decide) h1; first | exact absurd e2 (by decide) | (cases e1; cases h2; rfl)))
theorem d_sw (b : Bool) (k : Nat) (hk : k < 3) {l : Lb} (h : dep l (gm b 1) k) : l = (bsa b k) := by
  have h6 := gm_ge b 1
  rcases l with u|u|u|c|c|k'|k'|j|j|j|j|j|⟨c, j⟩|⟨c, k'⟩
  all_goals first
    | exact h.elim
    | (obtain ⟨h1, h2⟩ := h; exfalso; omega)
    | (obtain ⟨h1, h2⟩ := h; have h3 := gm_ge c 0; exfalso; omega)
    | (obtain ⟨h1, h2⟩ := h; have h3 := gv_lt c; exfalso; omega)
    | (have h3 := gm_ge c 1; have h4 := gm_ge c 2; have h5 := gm_ge c 3; have h7 := gm_ge c 4; rcases h with ⟨-, h1, -⟩ | ⟨-, h1⟩ | ⟨-, h1⟩ | ⟨-, h1⟩ <;> (exfalso; omega))
    | (obtain ⟨h1, h2⟩ := h; first | (cases h2; rfl) | (cases gv_in h1; cases h2; rfl) | (cases (gm_in (by decide) (by decide) h1).1; rfl) | exact absurd (gm_in (by decide) (by decide) h1).2 (by decide))
    | (rcases h with ⟨-, h1, h2⟩ | ⟨h2, h1⟩ | ⟨h2, h1⟩ | ⟨h2, h1⟩ <;> (obtain ⟨e1, e2⟩ := gm_in (by decide) (by decide) h1; first | exact absurd e2 (by decide) | (cases e1; cases h2; rfl)))
theorem d_s3 (b : Bool) (i : Nat) {l : Lb} (h : dep l (gm b 2) i) : l = (bsa b 3) := by
  have h6 := gm_ge b 2
  rcases l with u|u|u|c|c|k'|k'|j|j|j|j|j|⟨c, j⟩|⟨c, k'⟩
  all_goals first
    | exact h.elim
    | (obtain ⟨h1, h2⟩ := h; exfalso; omega)
    | (obtain ⟨h1, h2⟩ := h; have h3 := gm_ge c 0; exfalso; omega)
    | (obtain ⟨h1, h2⟩ := h; have h3 := gv_lt c; exfalso; omega)
    | (have h3 := gm_ge c 1; have h4 := gm_ge c 2; have h5 := gm_ge c 3; have h7 := gm_ge c 4; rcases h with ⟨-, h1, -⟩ | ⟨-, h1⟩ | ⟨-, h1⟩ | ⟨-, h1⟩ <;> (exfalso; omega))
    | (obtain ⟨h1, h2⟩ := h; first | (cases h2; rfl) | (cases gv_in h1; cases h2; rfl) | (cases (gm_in (by decide) (by decide) h1).1; rfl) | exact absurd (gm_in (by decide) (by decide) h1).2 (by decide))
    | (rcases h with ⟨-, h1, h2⟩ | ⟨h2, h1⟩ | ⟨h2, h1⟩ | ⟨h2, h1⟩ <;> (obtain ⟨e1, e2⟩ := gm_in (by decide) (by decide) h1; first | exact absurd e2 (by decide) | (cases e1; cases h2; rfl)))
theorem d_s4 (b : Bool) (i : Nat) {l : Lb} (h : dep l (gm b 3) i) : l = (bsa b 4) := by
  have h6 := gm_ge b 3
  rcases l with u|u|u|c|c|k'|k'|j|j|j|j|j|⟨c, j⟩|⟨c, k'⟩
  all_goals first
    | exact h.elim
    | (obtain ⟨h1, h2⟩ := h; exfalso; omega)
    | (obtain ⟨h1, h2⟩ := h; have h3 := gm_ge c 0; exfalso; omega)
    | (obtain ⟨h1, h2⟩ := h; have h3 := gv_lt c; exfalso; omega)
    | (have h3 := gm_ge c 1; have h4 := gm_ge c 2; have h5 := gm_ge c 3; have h7 := gm_ge c 4; rcases h with ⟨-, h1, -⟩ | ⟨-, h1⟩ | ⟨-, h1⟩ | ⟨-, h1⟩ <;> (exfalso; omega))
    | (obtain ⟨h1, h2⟩ := h; first | (cases h2; rfl) | (cases gv_in h1; cases h2; rfl) | (cases (gm_in (by decide) (by decide) h1).1; rfl) | exact absurd (gm_in (by decide) (by decide) h1).2 (by decide))
    | (rcases h with ⟨-, h1, h2⟩ | ⟨h2, h1⟩ | ⟨h2, h1⟩ | ⟨h2, h1⟩ <;> (obtain ⟨e1, e2⟩ := gm_in (by decide) (by decide) h1; first | exact absurd e2 (by decide) | (cases e1; cases h2; rfl)))
theorem d_s5 (b : Bool) (i : Nat) {l : Lb} (h : dep l (gm b 4) i) : l = (bsa b 5) := by
  have h6 := gm_ge b 4
  rcases l with u|u|u|c|c|k'|k'|j|j|j|j|j|⟨c, j⟩|⟨c, k'⟩
  all_goals first
    | exact h.elim
    | (obtain ⟨h1, h2⟩ := h; exfalso; omega)
    | (obtain ⟨h1, h2⟩ := h; have h3 := gm_ge c 0; exfalso; omega)
    | (obtain ⟨h1, h2⟩ := h; have h3 := gv_lt c; exfalso; omega)
    | (have h3 := gm_ge c 1; have h4 := gm_ge c 2; have h5 := gm_ge c 3; have h7 := gm_ge c 4; rcases h with ⟨-, h1, -⟩ | ⟨-, h1⟩ | ⟨-, h1⟩ | ⟨-, h1⟩ <;> (exfalso; omega))
    | (obtain ⟨h1, h2⟩ := h; first | (cases h2; rfl) | (cases gv_in h1; cases h2; rfl) | (cases (gm_in (by decide) (by decide) h1).1; rfl) | exact absurd (gm_in (by decide) (by decide) h1).2 (by decide))
    | (rcases h with ⟨-, h1, h2⟩ | ⟨h2, h1⟩ | ⟨h2, h1⟩ | ⟨h2, h1⟩ <;> (obtain ⟨e1, e2⟩ := gm_in (by decide) (by decide) h1; first | exact absurd e2 (by decide) | (cases e1; cases h2; rfl)))
