/-! ===== what the model's hour leaves; its passes ===== -/
theorem agZ_2 (d : Bool) (n t : Nat) : ∀ e k l x m, (agZ d n t e k l x m).1.2 = m.2 := by
  intro e
  induction e with
  | zero => intro k l x m; rfl
  | succ e ih =>
    intro k l x m
    rw [agZ]
    split
    · rw [ih, voZ_2]
    · rw [ih]
      rfl
theorem agZ_g (d : Bool) (n t : Nat) {g : Nat} (g2 : ¬ g = gm d 2) (g3 : ¬ g = gm d 3) (g4 : ¬ g = gm d 4) : ∀ e k l x m, (agZ d n t e k l x m).1.1 g = m.1 g := by
  intro e
  induction e with
  | zero => intro k l x m; rfl
  | succ e ih =>
    intro k l x m
    rw [agZ]
    split
    · rw [ih, voZ_n _ _ _ _ g2 g3]
    · rw [ih]
      exact uG_n _ _ g4
theorem raM_2 (d : Bool) (n w : Nat) (m : Zs) : (raM d n w m).2 = m.2 := by
  unfold raM
  split <;> rfl
theorem raM_g (d : Bool) (n w : Nat) (m : Zs) {g : Nat} (g2 : ¬ g = gm d 2) : (raM d n w m).1 g = m.1 g := by
  unfold raM
  split
  · rfl
  · exact uG_n _ _ g2
theorem mhZ_2 (d : Bool) (n W t ne : Nat) (m : Zs) : (mhZ d n W t ne m).2 = m.2 := by
  show (raM d n (t % W) (uI (agZ d n t ne 0 0 0 (tuS d n (t % W) m)).1 (gm d 0) 0 9 (nI (agZ d n t ne 0 0 0 (tuS d n (t % W) m)).2.1))).2 = m.2
  rw [raM_2, uI_2, agZ_2]
  rfl
theorem mhZ_g (d : Bool) (n W t ne : Nat) (m : Zs) {g : Nat} (g0 : ¬ g = gm d 0) (g2 : ¬ g = gm d 2) (g3 : ¬ g = gm d 3) (g4 : ¬ g = gm d 4) : (mhZ d n W t ne m).1 g = m.1 g := by
  unfold mhZ meZ fiZ
  rw [show (hoZ d t (agZ d n t ne 0 0 0 (tuS d n (t % W) m)).2.2 (raM d n (t % W) (uI (agZ d n t ne 0 0 0 (tuS d n (t % W) m)).1 (gm d 0) 0 9 (nI (agZ d n t ne 0 0 0 (tuS d n (t % W) m)).2.1)))).1 g = (raM d n (t % W) (uI (agZ d n t ne 0 0 0 (tuS d n (t % W) m)).1 (gm d 0) 0 9 (nI (agZ d n t ne 0 0 0 (tuS d n (t % W) m)).2.1))).1 g from uG_n _ _ g0, raM_g _ _ _ _ g2, uI_eq, uR, uG_n _ _ g0, agZ_g _ _ _ g2 g3 g4]
  exact uG_n _ _ g2
/-- the fields' row after an hour: the hour, the entries left, the passings; the rest as it was -/
theorem mhZ_0 (d : Bool) (n W t ne : Nat) (m : Zs) : ∃ l, (mhZ d n W t ne m).1 (gm d 0) 0 = u1 (u1 (u1 (m.1 (gm d 0) 0) 9 (nI l)) 0 (nI (t + 1))) 11 (m.1 (gm d 0) 0 11 + meK d n t ne (tuS d n (t % W) m)) := by
  refine ⟨(agZ d n t ne 0 0 0 (tuS d n (t % W) m)).2.1, ?_⟩
  unfold mhZ meZ fiZ hoZ
  rw [uR_s, raM_g _ _ _ _ (gm_ne d (by decide) (by decide) (by decide)), uI_s, agZ_g _ _ _ (gm_ne d (by decide) (by decide) (by decide)) (gm_ne d (by decide) (by decide) (by decide)) (gm_ne d (by decide) (by decide) (by decide)), show (tuS d n (t % W) m).1 (gm d 0) = m.1 (gm d 0) from uG_n _ _ (gm_ne d (by decide) (by decide) (by decide))]
  rfl
/-- nothing but the state d is other -/
def OM (d : Bool) (m m' : Zs) : Prop := m'.2 = m.2 ∧ ∀ g, (∀ j, j < 5 → ¬ g = gm d j) → m'.1 g = m.1 g
theorem OM.rf (d : Bool) (m : Zs) : OM d m m := ⟨rfl, fun _ _ => rfl⟩
theorem OM.tr {d : Bool} {x y z : Zs} (h : OM d x y) (g : OM d y z) : OM d x z := ⟨g.1.trans h.1, fun a ha => (g.2 a ha).trans (h.2 a ha)⟩
theorem mhZ_OM (d : Bool) (n W t ne : Nat) (m : Zs) : OM d m (mhZ d n W t ne m) := ⟨mhZ_2 _ _ _ _ _ _, fun g hg => mhZ_g _ _ _ _ _ _ (hg 0 (by decide)) (hg 2 (by decide)) (hg 3 (by decide)) (hg 4 (by decide))⟩
theorem tuS_OM (d : Bool) (n w : Nat) (m : Zs) : OM d m (tuS d n w m) := ⟨rfl, fun g hg => uG_n _ _ (hg 2 (by decide))⟩
/-- the motions' counts over an hour of the town itself -/
theorem MC.hour {n W t ne : Nat} {c m : Zs} {b d : Bool} (C : MC c m d) (S : SimH n W t ne c b m d) : MC (hoS b n 1 t c) (mhZ d n W t ne m) d := by
  have S1 := S.blow
  have hb2 : (blS b n t c).1 2 = c.1 2 := by cases b <;> rfl
  have C1 : MC (blS b n t c) (tuS d n (t % W) m) d := C.of rfl hb2 (uG_n _ _ (gm_ne d (by decide) (by decide) (by decide)))
  have hrow := S1.rowB
  obtain ⟨s1, s2, s3, s4, s5, s6, s7, s8⟩ := S1
  have C2 := MC.ag (t := t) ne 0 0 0 _ _ s1 s2 C1 (Nat.le_refl _) (fun i _ hi => hrow i (by omega))
  rw [s7.T, vI_fC] at C2
  refine MC.of C2 ?_ ?_ ?_
  · exact (raS_SK b n t _).1
  · show (raS b n t (vI b n 1 (nI t) ((blS b n t c).2.1 2) (blS b n t c))).1 2 = (vI b n 1 (nI t) ((blS b n t c).2.1 2) (blS b n t c)).1 2
    unfold raS
    split
    · rfl
    · cases b <;> rfl
  · unfold mhZ meZ fiZ
    rw [show (hoZ d t (agZ d n t ne 0 0 0 (tuS d n (t % W) m)).2.2 (raM d n (t % W) (uI (agZ d n t ne 0 0 0 (tuS d n (t % W) m)).1 (gm d 0) 0 9 (nI (agZ d n t ne 0 0 0 (tuS d n (t % W) m)).2.1)))).1 (gm d 3) = _ from uG_n _ _ (gm_ne d (by decide) (by decide) (by decide)), raM_g _ _ _ _ (gm_ne d (by decide) (by decide) (by decide)), uI_eq, uR, uG_n _ _ (gm_ne d (by decide) (by decide) (by decide))]
theorem MN.v {m : Zs} {n W t : Nat} (M : MN m false n W t) : m.1 10 0 5 = nI n := M.1
/-- the model's pass: hours -/
theorem sl_mpass {G : GE} {n W N : Nat} (hN : N < 2 ^ 31) : ∀ d i t fuel c m h x ne, i + d = N → d < fuel → t + d ≤ 2000 → Rp G m h → SimH n W t ne c false m false → MC c m false →
    ∃ h' m' ne', f_X8_pass_b46 G fuel (m.2.2.2 bX) (nI N) x (nI i) h = some (x + paK n d t c, h') ∧ Rp G m' h' ∧ SimH n W (t + d) ne' (paZ n d t c) false m' false ∧ MC (paZ n d t c) m' false ∧ OM false m m' ∧ m'.1 10 0 11 = m.1 10 0 11 + paK n d t c ∧ (∀ k, ¬ k = 0 → ¬ k = 9 → ¬ k = 11 → m'.1 10 0 k = m.1 10 0 k) ∧ m'.1 11 = m.1 11 := by
  intro d
  induction d with
  | zero =>
    intro i t fuel c m h x ne hi hf ht R S C
    obtain ⟨fuel, rfl⟩ : ∃ q, fuel = q + 1 := ⟨fuel - 1, by omega⟩
    obtain rfl : i = N := by omega
    refine ⟨h, m, ne, ?_, R, S, C, OM.rf _ _, (Int32.add_zero _).symm, fun _ _ _ _ => rfl, rfl⟩
    show f_X8_pass_b46_body G (f_X8_pass_b46 G fuel) (m.2.2.2 bX) (nI i) x (nI i) h = _
    rw [f_X8_pass_b46_body, if_pos (Int32.le_refl _), paK, Int32.add_zero]
  | succ d ih =>
    intro i t fuel c m h x ne hi hf ht R S C
    obtain ⟨fuel, rfl⟩ : ∃ q, fuel = q + 1 := ⟨fuel - 1, by omega⟩
    have hiN : i < N := by omega
    obtain ⟨h1, e1, R1⟩ := s_mpass R S
    obtain ⟨⟨ne1, S1⟩, hK⟩ := S.hour (by omega) 1
    have C1 := C.hour S
    have hu2 : (uI (hoS false n 1 t c) 0 0 0 (nI (t + 1))).1 2 = (hoS false n 1 t c).1 2 := rfl
    obtain ⟨h', m', ne', e', R', S', C', O', p', r', w'⟩ := ih (i + 1) (t + 1) fuel (uI (hoS false n 1 t c) 0 0 0 (nI (t + 1))) _ h1 (x + vK false n 1 (nI t) (c.2.1 2) (blS false n t c)) ne1 (by omega) (by omega) (by omega) R1 (S1.u0 0 0 _) (C1.of rfl hu2 rfl)
    obtain ⟨l, h0⟩ := mhZ_0 false n W t ne m
    have h0 : (mhZ false n W t ne m).1 10 0 = _ := h0
    have hO := mhZ_OM false n W t ne m
    rw [hO.1] at e'
    refine ⟨h', m', ne', ?_, R', ?_, C', hO.tr O', ?_, ?_, ?_⟩
    · show f_X8_pass_b46_body G (f_X8_pass_b46 G fuel) (m.2.2.2 bX) (nI N) x (nI i) h = _
      rw [f_X8_pass_b46_body, if_neg (nI_ge hiN (by omega)), g_X_1 R, rd_s, c_ost R, rd_s, e1, bd_s, nI_1, hK]
      rw [e', Int32.add_assoc]
      rfl
    · rw [show t + (d + 1) = t + 1 + d by omega]
      exact S'
    · rw [p', h0, hK, u1_s, Int32.add_assoc]
      rfl
    · intro k k0 k9 k11
      rw [r' k k0 k9 k11, h0, u1_n _ _ k11, u1_n _ _ k0, u1_n _ _ k9]
      rfl
    · rw [w']
      exact mhZ_g false n W t ne m (g := 11) (by decide) (by decide) (by decide) (by decide)
