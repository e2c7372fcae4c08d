/-! ===== the motions' counts; the model's hours ===== -/
def MC (c m : Zs) (d : Bool) : Prop := ∀ q k, q < c.2.1 1 → 4 ≤ k → k < 6 → c.1 2 q k = m.1 (gm d 3) q k
theorem MC.vote {n : Nat} {c m : Zs} {b d : Bool} (C : MC c m d) (S : Sim n c b m d) (H : HB c b n) {q : Nat} (hq : q < c.2.1 1) : MC (vE b n 1 q c) (voZ d n q m) d := by
  have h2 : ∀ x : Zs, (if kCarr c b q n = 0 then c else uG c (gv b) (mapN n (fF c b q) (c.1 (gv b)))).1 2 = c.1 2 := by
    intro _
    by_cases e : kCarr c b q n = 0
    · rw [if_pos e]
    · rw [if_neg e]
      cases b <;> rfl
  have hc : (vE b n 1 q c).1 2 = u1 (c.1 2) q (rNote (kCarr c b q n) (c.1 2 q)) := by
    unfold vE
    simp only [if_neg (show ¬ (1 : Int32) = 0 by decide)]
    unfold uR
    rw [uG_s, h2 c]
  have h1 : (vE b n 1 q c).2 = c.2 := (vE_SK b n 1 q c).1
  intro q' k hq' h4 h6
  rw [h1] at hq'
  rw [hc]
  by_cases e : q' = q
  · subst e
    rw [u1_s]
    unfold voZ rNote
    rw [S.vWe H hq]
    by_cases c0 : kCarr c b q' n = 0
    · rw [if_pos c0, if_pos c0]
      unfold v1Z
      rw [uI_s, ← C q' 4 hq' (by decide) (by decide)]
      unfold u1
      by_cases k4 : k = 4
      · rw [if_pos k4, if_pos k4]
      · rw [if_neg k4, if_neg k4]
        exact C q' k hq' h4 h6
    · rw [if_neg c0, if_neg c0]
      unfold efZ
      rw [uG_n _ _ (gm_ne d (by decide) (by decide) (by decide))]
      unfold v2Z
      rw [uR_s, ← C q' 4 hq' (by decide) (by decide), ← C q' 5 hq' (by decide) (by decide)]
      have : k = 4 ∨ k = 5 := by omega
      rcases this with rfl | rfl <;> rfl
  · rw [u1_n _ _ e]
    have : (voZ d n q m).1 (gm d 3) q' = m.1 (gm d 3) q' := by
      unfold voZ
      by_cases c0 : vW d n q m = 0
      · rw [if_pos c0]
        unfold v1Z
        rw [uI_eq, uR_n _ _ (fun x => e x.2)]
      · rw [if_neg c0]
        unfold efZ
        rw [uG_n _ _ (gm_ne d (by decide) (by decide) (by decide))]
        unfold v2Z
        rw [uR_n _ _ (fun x => e x.2)]
    rw [this]
    exact C q' k hq' h4 h6
theorem MC.of {c c' m m' : Zs} {d : Bool} (C : MC c m d) (h1 : c'.2 = c.2) (h2 : c'.1 2 = c.1 2) (h3 : m'.1 (gm d 3) = m.1 (gm d 3)) : MC c' m' d := by
  intro q k hq h4 h6
  rw [h1] at hq
  rw [h2, h3]
  exact C q k hq h4 h6
theorem MC.ag {n t : Nat} {b d : Bool} : ∀ e k l x c m, Sim n c b m d → HB c b n → MC c m d → l ≤ k → (∀ i, k ≤ i → i < k + e → isB (c.2.1 1) (m.1 (gm d 4) i 0)) →
    MC (fC b n 1 (agT (m.1 (gm d 4)) (nI t) e k) (c, x)).1 (agZ d n t e k l x m).1 d := by
  intro e
  induction e with
  | zero => intro k l x c m S H C hl hB; exact C
  | succ e ih =>
    intro k l x c m S H C hl hB
    by_cases h : m.1 (gm d 4) k 1 = nI t
    · obtain ⟨q, hq, eq⟩ := hB k (Nat.le_refl _) (by omega)
      have h12 := H.1.2.2.2.2.1
      have hqc : (m.1 (gm d 4) k 0).toNatClampNeg = q := by rw [eq, nI_clamp (by omega)]
      have h4 : (voZ d n q m).1 (gm d 4) = m.1 (gm d 4) := voZ_n _ _ _ _ (gm_ne d (by decide) (by decide) (by decide)) (gm_ne d (by decide) (by decide) (by decide))
      have hSK := vE_SK b n 1 q c
      have IH := ih (k + 1) l (x + vW d n q m) (vE b n 1 q c) (voZ d n q m) (S.vote H hq 1) (vE_HB H 1 q) (C.vote S H hq) (by omega) (fun i h1 h2 => by rw [h4, hSK.1]; exact hB i (by omega) (by omega))
      rw [h4, S.vWe H hq] at IH
      rw [agZ, if_pos h, hqc, S.vWe H hq, agT, if_pos h, hqc]
      exact IH
    · have hr : ∀ i, ¬ i = l → (cpZ d l k m).1 (gm d 4) i = m.1 (gm d 4) i := fun i hi => uR_n _ _ (fun x => hi x.2)
      have IH := ih (k + 1) (l + 1) x c (cpZ d l k m) (S.cp l k) H (C.of rfl rfl (uG_n _ _ (gm_ne d (by decide) (by decide) (by decide)))) (by omega) (fun i h1 h2 => by rw [hr i (by omega)]; exact hB i (by omega) (by omega))
      rw [agT_c e (k + 1) (g := m.1 (gm d 4)) (fun i h1 _ => hr i (by omega))] at IH
      rw [agZ, if_neg h, agT, if_neg h]
      exact IH
/-- the model's hour -/
def mhZ (d : Bool) (n W t ne : Nat) (m : Zs) : Zs := meZ d n (t % W) t ne (tuS d n (t % W) m)
theorem SimH.q {n W t ne : Nat} {c m : Zs} {b d : Bool} (S : SimH n W t ne c b m d) : ∀ v, v < n → ¬ ((m.1 (gm d 2) v 3 + (4 : Int32)) + m.1 (gm d 2) v 5) = 0 := by
  intro v hv e
  refine S.2.1.q v hv ?_
  rw [S.1.2.1 v 3 hv (by decide), S.1.1 v hv 5 (by decide) (by decide), e]
  decide
theorem SimH.r12 {n W t ne : Nat} {c m : Zs} {b d : Bool} (S : SimH n W t ne c b m d) : ∀ i, i < ne → isB 12 (m.1 (gm d 4) i 0) := by
  intro i hi
  obtain ⟨q, hq, e⟩ := S.rowB i hi
  exact ⟨q, Nat.lt_of_lt_of_le hq S.2.1.1.2.2.2.2.1, e⟩
theorem s_mpass {G : GE} {m : Zs} {h : PH} (R : Rp G m h) {n W t ne : Nat} {c : Zs} {b d : Bool} (S : SimH n W t ne c b m d) : ∃ h', f_X7_pass G (m.2.2.2 (bst d)) h = some (meK d n t ne (tuS d n (t % W) m), h') ∧ Rp G (mhZ d n W t ne m) h' := by
  obtain ⟨h1, e1, R1⟩ := s_mturn R S.2.2.2.1 S.q
  have S1 := S.blow
  obtain ⟨h2, e2, R2⟩ := s_mend R1 S1.2.2.2.1 S1.2.2.2.2.2.1 S1.2.2.2.2.1 S1.r12
  have e2 : f_X7_end G (m.2.2.2 (bst d)) h1 = some (meK d n t ne (tuS d n (t % W) m), h2) := e2
  have i8 : isC 8 h1 (m.2.2.2 (bst d)) = some () := c_ost (z := tuS d n (t % W) m) R1
  refine ⟨h2, ?_, R2⟩
  rw [f_X7_pass, c_ost R, rd_s, e1, bd_s, i8, rd_s, e2, bd_s]
theorem SimH.u0 {n W t ne : Nat} {c m : Zs} {b d : Bool} (S : SimH n W t ne c b m d) (i k : Nat) (x : Int32) : SimH n W t ne (uI c 0 i k x) b m d := by
  obtain ⟨s1, s2, s3, s4, s5, s6, s7, s8⟩ := S
  refine ⟨s1.mk' ⟨rfl, rfl, rfl, rfl, rfl, fun _ _ _ => rfl⟩ (fun _ _ _ => rfl) rfl (fun _ _ _ => rfl) (fun j hj => ?_), s2.u0 i k x, s3, s4, s5, s6, s7, s8⟩
  have : (uI c 0 i k x).1 (gv b) = c.1 (gv b) := by cases b <;> rfl
  rw [this]
  exact s1.1 j hj
theorem SimH.hour {n W t ne : Nat} {c m : Zs} {b d : Bool} (S : SimH n W t ne c b m d) (ht : t < 2001) (rec : Int32) : (∃ ne', SimH n W (t + 1) ne' (hoS b n rec t c) b (mhZ d n W t ne m) d) ∧ meK d n t ne (tuS d n (t % W) m) = vK b n rec (nI t) (c.2.1 2) (blS b n t c) := by
  have := S.blow.end' ht rec
  rw [(blS_SK b n t c).1] at this
  exact this
