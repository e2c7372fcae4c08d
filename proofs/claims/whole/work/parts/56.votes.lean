/-! ===== the votes of an hour, as a list ===== -/
def fC (b : Bool) (n : Nat) (rec : Int32) : List Nat → Zs × Int32 → Zs × Int32
  | [], p => p
  | q :: l, p => fC b n rec l (vE b n rec q p.1, p.2 + kCarr p.1 b q n)
theorem fC_app (b : Bool) (n : Nat) (rec : Int32) (k l : List Nat) : ∀ p, fC b n rec (k ++ l) p = fC b n rec l (fC b n rec k p) := by
  induction k with
  | nil => intro p; rfl
  | cons q k ih => intro p; exact ih _
/-- the rows k, k + 1, .. of an agenda: those of the hour t, by motion; those that are not -/
def agT (f : Nat → Nat → Int32) (t : Int32) : Nat → Nat → List Nat
  | 0, _ => []
  | d + 1, k => if f k 1 = t then (f k 0).toNatClampNeg :: agT f t d (k + 1) else agT f t d (k + 1)
def agN (f : Nat → Nat → Int32) (t : Int32) : Nat → Nat → List (Int32 × Int32)
  | 0, _ => []
  | d + 1, k => if f k 1 = t then agN f t d (k + 1) else (f k 0, f k 1) :: agN f t d (k + 1)
theorem agT_s (f : Nat → Nat → Int32) (t : Int32) : ∀ d k, agT f t (d + 1) k = agT f t d k ++ (if f (k + d) 1 = t then [(f (k + d) 0).toNatClampNeg] else []) := by
  intro d
  induction d with
  | zero =>
    intro k
    rfl
  | succ d ih =>
    intro k
    rw [agT, ih (k + 1), agT, show k + 1 + d = k + (d + 1) by omega]
    by_cases c : f k 1 = t
    · rw [if_pos c, if_pos c]
      rfl
    · rw [if_neg c, if_neg c]
theorem vI_fC (b : Bool) (n : Nat) (rec t : Int32) (z : Zs) : ∀ k, fC b n rec (agT (z.1 3) t k 0) (z, 0) = (vI b n rec t k z, vK b n rec t k z) := by
  intro k
  induction k with
  | zero => rfl
  | succ k ih =>
    have h3 : (vI b n rec t k z).1 3 = z.1 3 := (vI_SK b n rec t k z).2.2.1
    rw [agT_s, fC_app, ih, Nat.zero_add]
    show _ = (vS b n rec t k (vI b n rec t k z), if (vI b n rec t k z).1 3 k 1 = t then vK b n rec t k z + kCarr (vI b n rec t k z) b ((vI b n rec t k z).1 3 k 0).toNatClampNeg n else vK b n rec t k z)
    unfold vS
    rw [h3]
    by_cases c : z.1 3 k 1 = t
    · rw [if_pos c, if_pos c, if_pos c]
      rfl
    · rw [if_neg c, if_neg c, if_neg c]
      rfl
theorem agT_c {f g : Nat → Nat → Int32} {t : Int32} : ∀ d k, (∀ i, k ≤ i → i < k + d → f i = g i) → agT f t d k = agT g t d k := by
  intro d
  induction d with
  | zero => intro k _; rfl
  | succ d ih =>
    intro k h
    rw [agT, agT, h k (Nat.le_refl _) (by omega), ih (k + 1) (fun i h1 h2 => h i (by omega) (by omega))]
theorem agN_c {f g : Nat → Nat → Int32} {t : Int32} : ∀ d k, (∀ i, k ≤ i → i < k + d → f i = g i) → agN f t d k = agN g t d k := by
  intro d
  induction d with
  | zero => intro k _; rfl
  | succ d ih =>
    intro k h
    rw [agN, agN, h k (Nat.le_refl _) (by omega), ih (k + 1) (fun i h1 h2 => h i (by omega) (by omega))]
theorem Sim.cp {n : Nat} {c m : Zs} {b d : Bool} (S : Sim n c b m d) (l k : Nat) : Sim n c b (cpZ d l k m) d :=
  S.mk' (SK.rfl' c) (fun u q _ => by rw [show (cpZ d l k m).1 (gm d 2) = m.1 (gm d 2) from uG_n _ _ (gm_ne d (by decide) (by decide) (by decide))]) (uG_n _ _ (gm_ne d (by decide) (by decide) (by decide))) (fun q j _ => by rw [show (cpZ d l k m).1 (gm d 3) = m.1 (gm d 3) from uG_n _ _ (gm_ne d (by decide) (by decide) (by decide))]) (fun j hj => by rw [show (cpZ d l k m).1 (gm d 2) = m.1 (gm d 2) from uG_n _ _ (gm_ne d (by decide) (by decide) (by decide))]; exact S.1 j hj)
/-- a list laid into rows -/
def inR (f : Nat → Nat → Int32) : Nat → List (Int32 × Int32) → Prop
  | _, [] => True
  | l, e :: r => (f l 0 = e.1 ∧ f l 1 = e.2) ∧ inR f (l + 1) r
theorem inR_c {f g : Nat → Nat → Int32} : ∀ r l, (∀ i, l ≤ i → i < l + r.length → g i = f i) → inR f l r → inR g l r := by
  intro r
  induction r with
  | nil => intro l _ _; trivial
  | cons e r ih =>
    intro l h hr
    refine ⟨?_, ih (l + 1) (fun i h1 h2 => h i (by omega) (by simp only [List.length_cons]; omega)) hr.2⟩
    rw [h l (Nat.le_refl _) (by simp only [List.length_cons]; omega)]
    exact hr.1
/-- the model's agenda gone through, beside the class's votes of the hour -/
theorem Sim.ag {n t : Nat} {b d : Bool} (rec : Int32) : ∀ e k l x c m, Sim n c b m d → HB c b n → l ≤ k → (∀ i, k ≤ i → i < k + e → isB (c.2.1 1) (m.1 (gm d 4) i 0)) →
    Sim n (fC b n rec (agT (m.1 (gm d 4)) (nI t) e k) (c, x)).1 b (agZ d n t e k l x m).1 d ∧
    (agZ d n t e k l x m).2.2 = (fC b n rec (agT (m.1 (gm d 4)) (nI t) e k) (c, x)).2 ∧
    (agZ d n t e k l x m).2.1 = l + (agN (m.1 (gm d 4)) (nI t) e k).length ∧
    inR ((agZ d n t e k l x m).1.1 (gm d 4)) l (agN (m.1 (gm d 4)) (nI t) e k) ∧
    (∀ i, i < l → (agZ d n t e k l x m).1.1 (gm d 4) i = m.1 (gm d 4) i) ∧ (∀ g, ¬ g = gm d 2 → ¬ g = gm d 3 → ¬ g = gm d 4 → (agZ d n t e k l x m).1.1 g = m.1 g) := by
  intro e
  induction e with
  | zero => intro k l x c m S H hl hB; exact ⟨S, rfl, rfl, trivial, fun _ _ => rfl, fun _ _ _ _ => rfl⟩
  | succ e ih =>
    intro k l x c m S H hl hB
    by_cases h : m.1 (gm d 4) k 1 = nI t
    · obtain ⟨q, hq, eq⟩ := hB k (Nat.le_refl _) (by omega)
      have h12 := H.1.2.2.2.2.1
      have hqc : (m.1 (gm d 4) k 0).toNatClampNeg = q := by rw [eq, nI_clamp (by omega)]
      have h4 : (voZ d n q m).1 (gm d 4) = m.1 (gm d 4) := voZ_n _ _ _ _ (gm_ne d (by decide) (by decide) (by decide)) (gm_ne d (by decide) (by decide) (by decide))
      have hSK := vE_SK b n rec q c
      have IH := ih (k + 1) l (x + vW d n q m) (vE b n rec q c) (voZ d n q m) (S.vote H hq rec) (vE_HB H rec q) (by omega) (fun i h1 h2 => by rw [h4, hSK.1]; exact hB i (by omega) (by omega))
      rw [h4, S.vWe H hq] at IH
      have ea : agZ d n t (e + 1) k l x m = agZ d n t e (k + 1) l (x + kCarr c b q n) (voZ d n q m) := by
        rw [agZ, if_pos h, hqc, S.vWe H hq]
      have eT : agT (m.1 (gm d 4)) (nI t) (e + 1) k = q :: agT (m.1 (gm d 4)) (nI t) e (k + 1) := by rw [agT, if_pos h, hqc]
      have eN : agN (m.1 (gm d 4)) (nI t) (e + 1) k = agN (m.1 (gm d 4)) (nI t) e (k + 1) := by rw [agN, if_pos h]
      rw [ea, eT, eN]
      obtain ⟨i1, i2, i3, i4, i5, i6⟩ := IH
      exact ⟨i1, i2, i3, i4, i5, fun g g2 g3 g4 => (i6 g g2 g3 g4).trans (voZ_n _ _ _ _ g2 g3)⟩
    · have hr : ∀ i, ¬ i = l → (cpZ d l k m).1 (gm d 4) i = m.1 (gm d 4) i := fun i hi => uR_n _ _ (fun x => hi x.2)
      have IH := ih (k + 1) (l + 1) x c (cpZ d l k m) (S.cp l k) H (by omega) (fun i h1 h2 => by rw [hr i (by omega)]; exact hB i (by omega) (by omega))
      rw [agT_c e (k + 1) (g := m.1 (gm d 4)) (fun i h1 _ => hr i (by omega)), agN_c e (k + 1) (g := m.1 (gm d 4)) (fun i h1 _ => hr i (by omega))] at IH
      have ea : agZ d n t (e + 1) k l x m = agZ d n t e (k + 1) (l + 1) x (cpZ d l k m) := by rw [agZ, if_neg h]
      have eT : agT (m.1 (gm d 4)) (nI t) (e + 1) k = agT (m.1 (gm d 4)) (nI t) e (k + 1) := by rw [agT, if_neg h]
      have eN : agN (m.1 (gm d 4)) (nI t) (e + 1) k = (m.1 (gm d 4) k 0, m.1 (gm d 4) k 1) :: agN (m.1 (gm d 4)) (nI t) e (k + 1) := by rw [agN, if_neg h]
      rw [ea, eT, eN]
      obtain ⟨i1, i2, i3, i4, i5, i6⟩ := IH
      refine ⟨i1, i2, by rw [i3, List.length_cons]; omega, ⟨?_, i4⟩, fun i hi => (i5 i (by omega)).trans (hr i (by omega)), fun g g2 g3 g4 => (i6 g g2 g3 g4).trans (uG_n _ _ g4)⟩
      have := i5 l (by omega)
      rw [this, cpZ, uR_s]
      exact ⟨rfl, rfl⟩
