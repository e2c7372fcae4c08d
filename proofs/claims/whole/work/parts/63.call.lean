/-! ===== a call of both, from what each does ===== -/
theorem both_ok {G : GE} {x y o : Nat} {h : PH} {z : Zs} {f : Option (Sum Int32 String × PH)} {okE : String → Prop} {cd : String → Int32} {g : PH → Option (Int32 × PH)} (R : Rp G z h) (P : PL z x y o) {r : Int32}
    (hf : ∃ h1 z1, f = some (.inl r, h1) ∧ Rp G z1 h1 ∧ PL z1 x y o ∧ ∀ h2, Rp G (uO z1 0 r.toInt64) h2 → ∃ h3 z3, g h2 = some (r, h3) ∧ Rp G z3 h3 ∧ PL z3 x y o ∧ z3.1 0 1 0 = 0 ∧ z3.2.2.1 0 = r.toInt64 ∧ Good z3) :
    stX G x y o f okE cd g h (IV G x y o) := by
  obtain ⟨h1, z1, e1, R1, P1, hg⟩ := hf
  have hv : isC 7 h x = some () := by rw [← P.1]; exact c_oV R
  refine ⟨.inl r, h1, e1, ⟨(), hv⟩, ?_, ?_, ?_⟩
  · intro E hE
    cases hE
  rotate_left
  · intro E hE
    cases hE
  intro r' hr
  cases hr
  obtain ⟨h2, e2, R2⟩ := w_O R1 r.toInt64
  rw [P1.2.2] at e2
  refine ⟨h2, e2, ⟨(), by rw [← P1.2.1]; exact c_oX (z := uO z1 0 r.toInt64) R2⟩, ?_⟩
  obtain ⟨h3, z3, e3, R3, P3, t3, o3, g3⟩ := hg h2 R2
  refine ⟨r, h3, e3, ⟨(), by rw [← P3.2.1]; exact c_oX R3⟩, h3, ?_, fun _ => ?_, z3, R3, P3, g3⟩
  · rw [f_X8_thrown, ← P3.2.1, g_X_0 R3, rd_s, t3]
  · rw [← P3.2.2, r_O R3, o3]
theorem both_ex {G : GE} {x y o : Nat} {h : PH} {z : Zs} {f : Option (Sum Int32 String × PH)} {okE : String → Prop} {cd : String → Int32} {g : PH → Option (Int32 × PH)} (R : Rp G z h) (P : PL z x y o) {E : String}
    (hf : f = some (.inr E, h)) (hE : okE E ∧ ¬ cd E = 0) (hg : ∀ h2, Rp G z h2 → ∃ b h3 z3, g h2 = some (b, h3) ∧ Rp G z3 h3 ∧ PL z3 x y o ∧ z3.1 0 1 0 = cd E ∧ Good z3) :
    stX G x y o f okE cd g h (IV G x y o) := by
  have hv : isC 7 h x = some () := by rw [← P.1]; exact c_oV R
  refine ⟨.inr E, h, hf, ⟨(), hv⟩, ?_, ?_, ?_⟩
  · intro E' hE'
    cases hE'
    exact hE
  · intro r hr
    cases hr
  intro E' hE' sz hsz
  cases hE'
  have R2 : Rp G z (sz, h.2) := ⟨Rq.sz R.1 bX (e_X (G := G) (z := z)) sz hsz, R.2⟩
  refine ⟨⟨(), by rw [← P.2.1]; exact c_oX R2⟩, ?_⟩
  obtain ⟨b, h3, z3, e3, R3, P3, t3, g3⟩ := hg _ R2
  refine ⟨b, h3, e3, ⟨(), by rw [← P3.2.1]; exact c_oX R3⟩, h3, ?_, fun q => absurd q hE.2, z3, R3, P3, g3⟩
  rw [f_X8_thrown, ← P3.2.1, g_X_0 R3, rd_s, t3]
