/-! ===== what holds between the calls ===== -/
def PL (z : Zs) (x y o : Nat) : Prop := z.2.2.2 bV = x ∧ z.2.2.2 bX = y ∧ z.2.2.2 bO = o
/-- the class's masts and motions in their bounds; the model's rains -/
def Good (z : Zs) : Prop := ∃ n W H0 ne, SimH n W H0 ne z false z false ∧ z.1 0 0 0 = nI H0 ∧ H0 ≤ 2000 ∧ z.1 0 0 1 = z.1 10 0 11 ∧ z.1 10 0 7 = nI (z.2.1 1) ∧ MC z z false ∧ (∀ a, a < z.2.1 2 → nI H0 ≤ z.1 3 a 1) ∧ (∀ i, i < 24 → z.1 11 2 i = 0 ∨ z.1 11 2 i = 1) ∧ (∀ b j, j < n → VB (z.1 (gv b) j)) ∧ z.2.1 3 = n
def IV (G : GE) (x y o : Nat) (h : PH) : Prop := ∃ z, Rp G z h ∧ PL z x y o ∧ Good z
theorem e_O {G : GE} {z : Zs} : ct G z bO = some (.inl (3, 1, .inr (.inl z.2.2.1))) := rfl
theorem w_O {G : GE} {z : Zs} {h : PH} (R : Rp G z h) (x : Int64) : ∃ h', aJs h (z.2.2.2 bO) 0 x = some h' ∧ Rp G (uO z 0 x) h' := by
  have hq := R.at (e_O (G := G) (z := z))
  have h0 : (0 : Int32).toNatClampNeg = 0 := by decide
  refine ⟨(h.1, va_up h.2 (z.2.2.2 bO) (some (.inl (3, 1, .inr (.inl (vp_updL z.2.2.1 0 x)))))), ?_, ?_⟩
  · simp [aJs, hq, h0]
  · refine ⟨Rq.wr R.1 bO _ e_O rfl (fun k hk => ?_), R.2⟩
    rcases k with u|u|u|b|b|q|q|i|i|i|i|i|⟨b, i⟩|⟨b, q⟩ <;> first | rfl | exact absurd rfl hk
theorem r_O {G : GE} {z : Zs} {h : PH} (R : Rp G z h) : aJ h (z.2.2.2 bO) 0 = some (z.2.2.1 0) := by
  have hq := R.at (e_O (G := G) (z := z))
  have h0 : (0 : Int32).toNatClampNeg = 0 := by decide
  simp [aJ, hq, h0]
theorem Good.o {z : Zs} (g : Good z) (x : Int64) : Good (uO z 0 x) := g
