/-! ===== an hour of both ===== -/
def rowL (f : Nat → Nat → Int32) : Nat → Nat → List (Int32 × Int32)
  | 0, _ => []
  | d + 1, k => (f k 0, f k 1) :: rowL f d (k + 1)
theorem agT_L (f : Nat → Nat → Int32) (t : Int32) : ∀ d k, agT f t d k = ((rowL f d k).filter (fun e => decide (e.2 = t))).map (fun e => e.1.toNatClampNeg) := by
  intro d
  induction d with
  | zero => intro k; rfl
  | succ d ih =>
    intro k
    rw [agT, rowL, List.filter_cons, ih]
    by_cases c : f k 1 = t
    · rw [if_pos c, if_pos (by simp [c])]
      rfl
    · rw [if_neg c, if_neg (by simp [c])]
theorem agN_L (f : Nat → Nat → Int32) (t : Int32) : ∀ d k, agN f t d k = (rowL f d k).filter (fun e => !decide (e.2 = t)) := by
  intro d
  induction d with
  | zero => intro k; rfl
  | succ d ih =>
    intro k
    rw [agN, rowL, List.filter_cons, ih]
    by_cases c : f k 1 = t
    · rw [if_pos c, if_neg (by simp [c])]
    · rw [if_neg c, if_pos (by simp [c])]
theorem inR_L {f : Nat → Nat → Int32} : ∀ r l, inR f l r → rowL f r.length l = r := by
  intro r
  induction r with
  | nil => intro l _; rfl
  | cons e r ih =>
    intro l h
    rw [List.length_cons, rowL, ih (l + 1) h.2, h.1.1, h.1.2]
theorem rowL_len (f : Nat → Nat → Int32) : ∀ d k, (rowL f d k).length = d := by
  intro d
  induction d with
  | zero => intro k; rfl
  | succ d ih => intro k; rw [rowL, List.length_cons, ih]
theorem rowL_mem {f : Nat → Nat → Int32} {e : Int32 × Int32} : ∀ d k, e ∈ rowL f d k → ∃ i, k ≤ i ∧ i < k + d ∧ e = (f i 0, f i 1) := by
  intro d
  induction d with
  | zero => intro k h; cases h
  | succ d ih =>
    intro k h
    rw [rowL] at h
    rcases List.mem_cons.mp h with h | h
    · exact ⟨k, Nat.le_refl _, by omega, h⟩
    · obtain ⟨i, h1, h2, h3⟩ := ih (k + 1) h
      exact ⟨i, by omega, by omega, h3⟩
theorem rowL_get {f : Nat → Nat → Int32} : ∀ d k i, i < d → (f (k + i) 0, f (k + i) 1) ∈ rowL f d k := by
  intro d
  induction d with
  | zero => intro k i h; omega
  | succ d ih =>
    intro k i h
    rw [rowL]
    cases i with
    | zero => exact List.mem_cons_self
    | succ i =>
      have := ih (k + 1) i (by omega)
      rw [show k + 1 + i = k + (i + 1) by omega] at this
      exact List.mem_cons_of_mem _ this
/-- the model's agenda is what is still to come of the class's -/
def AgR (f g : Nat → Nat → Int32) (nA ne t : Nat) : Prop := rowL g ne 0 = (rowL f nA 0).filter (fun e => decide (nI t ≤ e.2))
theorem AgR.T {f g : Nat → Nat → Int32} {nA ne t : Nat} (h : AgR f g nA ne t) : agT g (nI t) ne 0 = agT f (nI t) nA 0 := by
  rw [agT_L, agT_L, h, List.filter_filter]
  congr 2
  funext e
  by_cases c : e.2 = nI t
  · simp [c]
  · simp [c]
theorem AgR.N {f g g' : Nat → Nat → Int32} {nA ne ne' t : Nat} (h : AgR f g nA ne t) (hB : ∀ i, i < nA → isB 2001 (f i 1)) (ht : t < 2001) (hi : inR g' 0 (agN g (nI t) ne 0)) (hl : ne' = (agN g (nI t) ne 0).length) : AgR f g' nA ne' (t + 1) := by
  unfold AgR
  rw [hl, inR_L _ _ hi, agN_L, h, List.filter_filter]
  refine List.filter_congr (fun e he => ?_)
  obtain ⟨i, -, h2, rfl⟩ := rowL_mem _ _ he
  obtain ⟨x, hx, ex⟩ := hB i (by omega)
  have e1 : nI t ≤ f i 1 ↔ t ≤ x := by rw [ex]; exact nI_leI (by omega) (by omega)
  have e2 : nI (t + 1) ≤ f i 1 ↔ t + 1 ≤ x := by rw [ex]; exact nI_leI (by omega) (by omega)
  have e3 : f i 1 = nI t ↔ x = t := by rw [ex]; exact nI_eq (by omega) (by omega)
  simp only [e1, e2, e3]
  by_cases c1 : t ≤ x
  · by_cases c2 : x = t
    · have : ¬ t + 1 ≤ x := by omega
      simp [c2]
    · have : t + 1 ≤ x := by omega
      simp [c1, c2, this]
  · have : ¬ t + 1 ≤ x := by omega
    simp [c1, this]
/-- the class's town b in c at the hour t, the model's state d in m -/
def SimH (n W t ne : Nat) (c : Zs) (b : Bool) (m : Zs) (d : Bool) : Prop :=
  Sim n c b m d ∧ HB c b n ∧ c.2.1 0 = W ∧ MN m d n W t ∧ m.1 (gm d 0) 0 9 = nI ne ∧ ne ≤ 20 ∧ AgR (c.1 3) (m.1 (gm d 4)) (c.2.1 2) ne t ∧ (∀ i, i < c.2.1 2 → isB 2001 (c.1 3 i 1))
theorem SimH.rowB {n W t ne : Nat} {c m : Zs} {b d : Bool} (S : SimH n W t ne c b m d) : ∀ i, i < ne → isB (c.2.1 1) (m.1 (gm d 4) i 0) := by
  intro i hi
  have h1 := rowL_get (f := m.1 (gm d 4)) ne 0 i hi
  rw [S.2.2.2.2.2.2.1, Nat.zero_add] at h1
  obtain ⟨h2, -⟩ := List.mem_filter.mp h1
  obtain ⟨j, -, hj, e⟩ := rowL_mem _ _ h2
  have e1 : m.1 (gm d 4) i 0 = c.1 3 j 0 := congrArg Prod.fst e
  rw [e1]
  exact S.2.1.2.2.2.1 j (by omega)
/-- after the blow -/
theorem SimH.blow {n W t ne : Nat} {c m : Zs} {b d : Bool} (S : SimH n W t ne c b m d) : SimH n W t ne (blS b n t c) b (tuS d n (t % W) m) d := by
  obtain ⟨s1, s2, s3, s4, s5, s6, s7, s8⟩ := S
  have k := blS_SK b n t c
  have e0 : (tuS d n (t % W) m).1 (gm d 0) = m.1 (gm d 0) := uG_n _ _ (gm_ne d (by decide) (by decide) (by decide))
  have e4 : (tuS d n (t % W) m).1 (gm d 4) = m.1 (gm d 4) := uG_n _ _ (gm_ne d (by decide) (by decide) (by decide))
  refine ⟨s1.blow s2 s3, blS_HB s2 t, by rw [k.1]; exact s3, s4.of e0, by rw [e0]; exact s5, s6, ?_, ?_⟩
  · rw [k.2.2.1, k.1, e4]; exact s7
  · rw [k.2.2.1, k.1]; exact s8
/-- after the votes and the rain: one hour later; the same number of motions passed -/
theorem SimH.end' {n W t ne : Nat} {c m : Zs} {b d : Bool} (S : SimH n W t ne c b m d) (ht : t < 2001) (rec : Int32) :
    (∃ ne', SimH n W (t + 1) ne' (enS b n rec t c) b (meZ d n (t % W) t ne m) d) ∧ meK d n t ne m = vK b n rec (nI t) (c.2.1 2) c := by
  have hrow := S.rowB
  obtain ⟨s1, s2, s3, s4, s5, s6, s7, s8⟩ := S
  obtain ⟨a1, a2, a3, a4, a5, a6⟩ := Sim.ag (t := t) rec ne 0 0 0 c m s1 s2 (Nat.le_refl _) (fun i _ hi => hrow i (by omega))
  rw [s7.T, vI_fC] at a1 a2
  have a1 : Sim n (vI b n rec (nI t) (c.2.1 2) c) b (agZ d n t ne 0 0 0 m).1 d := a1
  have hI := vI_SK b n rec (nI t) (c.2.1 2) c
  have hHB := vI_HB s2 rec (nI t) (c.2.1 2)
  have hl : (agN (m.1 (gm d 4)) (nI t) ne 0).length ≤ 20 := by
    rw [agN_L]
    refine Nat.le_trans (List.length_filter_le _ _) ?_
    rw [rowL_len]
    exact s6
  rw [Nat.zero_add] at a3
  generalize hq : agZ d n t ne 0 0 0 m = q at a1 a2 a3 a4 a5 a6
  have q0 : q.1.1 (gm d 0) = m.1 (gm d 0) := a6 _ (gm_ne d (by decide) (by decide) (by decide)) (gm_ne d (by decide) (by decide) (by decide)) (gm_ne d (by decide) (by decide) (by decide))
  have u9 : ∀ g, ¬ g = gm d 0 → (uI q.1 (gm d 0) 0 9 (nI q.2.1)).1 g = q.1.1 g := fun g hg => uG_n _ _ hg
  have S9 : Sim n (vI b n rec (nI t) (c.2.1 2) c) b (uI q.1 (gm d 0) 0 9 (nI q.2.1)) d :=
    a1.mk' (SK.rfl' _) (fun u k _ => by rw [u9 _ (gm_ne d (by decide) (by decide) (by decide))]) (u9 _ (gm_ne d (by decide) (by decide) (by decide))) (fun u k _ => by rw [u9 _ (gm_ne d (by decide) (by decide) (by decide))]) (fun j hj => by rw [u9 _ (gm_ne d (by decide) (by decide) (by decide))]; exact a1.1 j hj)
  have Sr := S9.rain (t := t) hHB (hI.1 ▸ s3)
  have ho : ∀ g, ¬ g = gm d 0 → (hoZ d t q.2.2 (raM d n (t % W) (uI q.1 (gm d 0) 0 9 (nI q.2.1)))).1 g = (raM d n (t % W) (uI q.1 (gm d 0) 0 9 (nI q.2.1))).1 g := fun g hg => uG_n _ _ hg
  have hra : ∀ g, ¬ g = gm d 2 → (raM d n (t % W) (uI q.1 (gm d 0) 0 9 (nI q.2.1))).1 g = (uI q.1 (gm d 0) 0 9 (nI q.2.1)).1 g := by
    intro g hg
    unfold raM
    split
    · rfl
    · exact uG_n _ _ hg
  have SE : Sim n (enS b n rec t c) b (meZ d n (t % W) t ne m) d := by
    show Sim n (raS b n t (vI b n rec (nI t) (c.2.1 2) c)) b (fiZ d n (t % W) t (agZ d n t ne 0 0 0 m)) d
    rw [hq]
    exact Sr.mk' (SK.rfl' _) (fun u k _ => by rw [show (fiZ d n (t % W) t q).1 (gm d 2) = _ from ho _ (gm_ne d (by decide) (by decide) (by decide))]) (ho _ (gm_ne d (by decide) (by decide) (by decide))) (fun u k _ => by rw [show (fiZ d n (t % W) t q).1 (gm d 3) = _ from ho _ (gm_ne d (by decide) (by decide) (by decide))]) (fun j hj => by rw [show (fiZ d n (t % W) t q).1 (gm d 2) = _ from ho _ (gm_ne d (by decide) (by decide) (by decide))]; exact Sr.1 j hj)
  have kE := enS_SK b n rec t c
  have r0 : (raM d n (t % W) (uI q.1 (gm d 0) 0 9 (nI q.2.1))).1 (gm d 0) 0 = u1 (m.1 (gm d 0) 0) 9 (nI q.2.1) := by
    rw [hra _ (gm_ne d (by decide) (by decide) (by decide)), uI_s, q0]
  have f0 : (meZ d n (t % W) t ne m).1 (gm d 0) 0 = u1 (u1 (u1 (m.1 (gm d 0) 0) 9 (nI q.2.1)) 0 (nI (t + 1))) 11 ((u1 (m.1 (gm d 0) 0) 9 (nI q.2.1)) 11 + q.2.2) := by
    unfold meZ fiZ hoZ
    rw [hq, uR_s, r0]
  obtain ⟨m1, m2, m3, m4, m5, m6, m7⟩ := s4
  refine ⟨⟨q.2.1, SE, enS_HB s2 rec t, by rw [kE.1]; exact s3, ⟨?_, m2, ?_, m4, m5, ?_, by omega⟩, ?_, by rw [a3]; exact hl, ?_, by rw [kE.2.2.1, kE.1]; exact s8⟩, ?_⟩
  · rw [f0]; exact m1
  · rw [f0]; exact m3
  · rw [f0]; rfl
  · rw [f0]; rfl
  · rw [kE.2.2.1, kE.1]
    have e4 : (meZ d n (t % W) t ne m).1 (gm d 4) = q.1.1 (gm d 4) := by
      unfold meZ fiZ
      rw [hq, ho _ (gm_ne d (by decide) (by decide) (by decide)), hra _ (gm_ne d (by decide) (by decide) (by decide)), u9 _ (gm_ne d (by decide) (by decide) (by decide))]
    rw [e4]
    exact s7.N s8 ht a4 a3
  · unfold meK
    rw [hq]
    exact a2
