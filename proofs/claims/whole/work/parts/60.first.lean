/-! ===== hours ahead, of both ===== -/
theorem sl_mforesee {G : GE} {n W N H0 v : Nat} (hN : H0 + N ≤ 2000) (hv : v < n) : ∀ d i fuel c m h ne, i + d = N → d < fuel → Rp G m h → SimH n W (H0 + i) ne c true m true →
    ∃ h' m', f_X8_foresee_b69 G fuel (m.2.2.2 bX) (nI v) (nI N) (nI i) h = some ((foZ n H0 d i c).1 7 v 6, h') ∧ Rp G m' h' ∧ OM true m m' := by
  intro d
  induction d with
  | zero =>
    intro i fuel c m h ne hi hf R S
    obtain ⟨fuel, rfl⟩ : ∃ q, fuel = q + 1 := ⟨fuel - 1, by omega⟩
    obtain rfl : i = N := by omega
    have h16 := S.2.2.2.1.2.1
    refine ⟨h, m, ?_, R, OM.rf _ _⟩
    show f_X8_foresee_b69_body G (f_X8_foresee_b69 G fuel) (m.2.2.2 bX) (nI v) (nI i) (nI i) h = _
    rw [f_X8_foresee_b69_body, if_pos (Int32.le_refl _), g_X_2 R, rd_s, c_ost R, rd_s, s_of_6 R (show v < 16 by omega), bd_s, foZ, ← S.1.1 v hv 6 (by decide) (by decide)]
    rfl
  | succ d ih =>
    intro i fuel c m h ne hi hf R S
    obtain ⟨fuel, rfl⟩ : ∃ q, fuel = q + 1 := ⟨fuel - 1, by omega⟩
    have hiN : i < N := by omega
    obtain ⟨h1, e1, R1⟩ := s_mpass R S
    obtain ⟨⟨ne1, S1⟩, hK⟩ := S.hour (by omega) 0
    obtain ⟨h', m', e', R', O'⟩ := ih (i + 1) fuel (hoS true n 0 (H0 + i) c) _ h1 ne1 (by omega) (by omega) R1 S1
    have hO := mhZ_OM true n W (H0 + i) ne m
    rw [hO.1] at e'
    refine ⟨h', m', ?_, R', hO.tr O'⟩
    show f_X8_foresee_b69_body G (f_X8_foresee_b69 G fuel) (m.2.2.2 bX) (nI v) (nI N) (nI i) h = _
    rw [f_X8_foresee_b69_body, if_neg (nI_ge hiN (by omega)), g_X_2 R, rd_s, c_ost R, rd_s, e1, bd_s, nI_1]
    exact e'
theorem hwP_le (m n H0 : Nat) : ∀ d i z, hwP m n H0 d i z ≤ i + d := by
  intro d
  induction d with
  | zero => intro i z; exact Nat.le_refl _
  | succ d ih =>
    intro i z
    rw [hwP]
    split
    · have := ih (i + 1) (hoS true n 0 (H0 + i) z)
      omega
    · omega
theorem sl_first {G : GE} {n W N H0 q : Nat} (hN : H0 + N ≤ 2000) : ∀ d i fuel c m h ne, i + d = N → d < fuel → q < c.2.1 1 → Rp G m h → SimH n W (H0 + i) ne c true m true →
    ∃ h' m', f_X8_first_b27 G fuel (m.2.2.2 bX) (nI q) (nI N) (nI i) h = some (if hwP q n H0 d i c < N then nI (H0 + hwP q n H0 d i c) else -1, h') ∧ Rp G m' h' ∧ OM true m m' := by
  intro d
  induction d with
  | zero =>
    intro i fuel c m h ne hi hf hq R S
    obtain ⟨fuel, rfl⟩ : ∃ q, fuel = q + 1 := ⟨fuel - 1, by omega⟩
    obtain rfl : i = N := by omega
    refine ⟨h, m, ?_, R, OM.rf _ _⟩
    show f_X8_first_b27_body G (f_X8_first_b27 G fuel) (m.2.2.2 bX) (nI q) (nI i) (nI i) h = _
    rw [f_X8_first_b27_body, if_pos (Int32.le_refl _), hwP, if_neg (Nat.lt_irrefl _)]
  | succ d ih =>
    intro i fuel c m h ne hi hf hq R S
    obtain ⟨fuel, rfl⟩ : ∃ q, fuel = q + 1 := ⟨fuel - 1, by omega⟩
    have hiN : i < N := by omega
    obtain ⟨h1, e1, R1⟩ := s_mturn R S.2.2.2.1 S.q
    have S1 := S.blow
    have q1 : q < (blS true n (H0 + i) c).2.1 1 := hq
    have hw := S1.1.carr S1.2.1 q1
    have h12 := S.2.1.1.2.2.2.2.1
    have w1 : f_X7_would G (m.2.2.2 (bst true)) (nI q) h1 = some (mWould (tuS true n ((H0 + i) % W) m) true q n, h1) := s_would (z := tuS true n ((H0 + i) % W) m) R1 S1.2.2.2.1.1 S1.2.2.2.1.2.1 (by omega)
    have g2 : gR 9 h1 (m.2.2.2 bX) 2 = some (m.2.2.2 (bst true)) := g_X_2 (z := tuS true n ((H0 + i) % W) m) R1
    have i8 : isC 8 h1 (m.2.2.2 (bst true)) = some () := c_ost (z := tuS true n ((H0 + i) % W) m) R1
    by_cases c0 : kCarr (blS true n (H0 + i) c) true q n = 0
    · obtain ⟨h2, e2, R2⟩ := s_mend R1 S1.2.2.2.1 S1.2.2.2.2.2.1 S1.2.2.2.2.1 S1.r12
      have e2 : f_X7_end G (m.2.2.2 (bst true)) h1 = some (_, h2) := e2
      have R2 : Rp G (mhZ true n W (H0 + i) ne m) h2 := R2
      obtain ⟨⟨ne1, S2⟩, -⟩ := S.hour (by omega) 0
      have q2 : q < (hoS true n 0 (H0 + i) c).2.1 1 := by rw [(hoS_AH true n (H0 + i) c).1]; exact hq
      obtain ⟨h', m', e', R', O'⟩ := ih (i + 1) fuel (hoS true n 0 (H0 + i) c) _ h2 ne1 (by omega) (by omega) q2 R2 S2
      have hO := mhZ_OM true n W (H0 + i) ne m
      rw [hO.1] at e'
      refine ⟨h', m', ?_, R', hO.tr O'⟩
      show f_X8_first_b27_body G (f_X8_first_b27 G fuel) (m.2.2.2 bX) (nI q) (nI N) (nI i) h = _
      simp only [f_X8_first_b27_body, if_neg (nI_ge hiN (show N < 2 ^ 31 by omega)), g_X_2 R, rd_s, c_ost R, e1, bd_s, g2, i8, w1, ← hw, if_pos c0, e2, nI_1, e', hwP]
    · refine ⟨h1, _, ?_, R1, tuS_OM _ _ _ _⟩
      have g0 : gI 8 h1 (m.2.2.2 (bst true)) 0 = some (nI (H0 + i)) := by
        have := g_st_0 (z := tuS true n ((H0 + i) % W) m) R1 (b := true)
        rw [S1.2.2.2.1.2.2.2.2.2.1] at this
        exact this
      show f_X8_first_b27_body G (f_X8_first_b27 G fuel) (m.2.2.2 bX) (nI q) (nI N) (nI i) h = _
      simp only [f_X8_first_b27_body, if_neg (nI_ge hiN (show N < 2 ^ 31 by omega)), g_X_2 R, rd_s, c_ost R, e1, bd_s, g2, i8, w1, ← hw, if_neg c0, g0, hwP, if_pos hiN]
