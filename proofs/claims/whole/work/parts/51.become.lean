/-! ===== a state becomes another ===== -/
def BE (z z' : Zs) : Prop := z'.2 = z.2 ∧ (∀ g, g < 20 → z'.1 g = z.1 g) ∧ (z'.1 20 0 0 = z.1 10 0 0 ∧ z'.1 20 0 1 = z.1 10 0 1 ∧ z'.1 20 0 5 = z.1 10 0 5 ∧ z'.1 20 0 7 = z.1 10 0 7 ∧ z'.1 20 0 9 = z.1 10 0 9 ∧ z'.1 20 0 11 = z.1 10 0 11) ∧ (∀ r i, r < 3 → i < 24 → z'.1 21 r i = z.1 11 r i) ∧ (∀ v, v < 16 → z'.1 22 v = z.1 12 v) ∧ (∀ m, m < 12 → z'.1 23 m = z.1 13 m) ∧ (∀ a, a < 20 → z'.1 24 a = z.1 14 a)
set_option maxHeartbeats 4000000 in
theorem s_become {G : GE} {z : Zs} {h : PH} (R : Rp G z h) (h01 : ∀ i, i < 24 → z.1 11 2 i = 0 ∨ z.1 11 2 i = 1) : ∃ h' z', f_X7_become G (z.2.2.2 (bst true)) (z.2.2.2 (bst false)) h = some ((), h') ∧ Rp G z' h' ∧ BE z z' := by
  obtain ⟨h1, e1, R1⟩ := w_st_0 R (b := true) (z.1 10 0 0)
  have R1 : Rp G (uR z 20 0 (u1 (z.1 20 0) 0 (z.1 10 0 0))) h1 := R1
  have g1 : gI 8 h1 (z.2.2.2 (bst false)) 1 = some (z.1 10 0 1) := by
    have := g_st_1 (b := false) R1
    exact this
  obtain ⟨h2, e2, R2⟩ := w_st_1 R1 (b := true) (z.1 10 0 1)
  have R2 : Rp G (uR z 20 0 (u1 (u1 (z.1 20 0) 0 (z.1 10 0 0)) 1 (z.1 10 0 1))) h2 := (uI_uR z 20 0 1 (u1 (z.1 20 0) 0 (z.1 10 0 0)) (z.1 10 0 1)) ▸ R2
  have e2 : sF 8 h1 (z.2.2.2 (bst true)) 1 (.int (z.1 10 0 1)) = some h2 := e2
  have g2 : gI 8 h2 (z.2.2.2 (bst false)) 5 = some (z.1 10 0 5) := by
    have := g_st_5 (b := false) R2
    exact this
  obtain ⟨h3, e3, R3⟩ := w_st_5 R2 (b := true) (z.1 10 0 5)
  have R3 : Rp G (uR z 20 0 (u1 (u1 (u1 (z.1 20 0) 0 (z.1 10 0 0)) 1 (z.1 10 0 1)) 5 (z.1 10 0 5))) h3 := (uI_uR z 20 0 5 (u1 (u1 (z.1 20 0) 0 (z.1 10 0 0)) 1 (z.1 10 0 1)) (z.1 10 0 5)) ▸ R3
  have e3 : sF 8 h2 (z.2.2.2 (bst true)) 5 (.int (z.1 10 0 5)) = some h3 := e3
  have g3 : gI 8 h3 (z.2.2.2 (bst false)) 7 = some (z.1 10 0 7) := by
    have := g_st_7 (b := false) R3
    exact this
  obtain ⟨h4, e4, R4⟩ := w_st_7 R3 (b := true) (z.1 10 0 7)
  have R4 : Rp G (uR z 20 0 (u1 (u1 (u1 (u1 (z.1 20 0) 0 (z.1 10 0 0)) 1 (z.1 10 0 1)) 5 (z.1 10 0 5)) 7 (z.1 10 0 7))) h4 := (uI_uR z 20 0 7 (u1 (u1 (u1 (z.1 20 0) 0 (z.1 10 0 0)) 1 (z.1 10 0 1)) 5 (z.1 10 0 5)) (z.1 10 0 7)) ▸ R4
  have e4 : sF 8 h3 (z.2.2.2 (bst true)) 7 (.int (z.1 10 0 7)) = some h4 := e4
  have g4 : gI 8 h4 (z.2.2.2 (bst false)) 9 = some (z.1 10 0 9) := by
    have := g_st_9 (b := false) R4
    exact this
  obtain ⟨h5, e5, R5⟩ := w_st_9 R4 (b := true) (z.1 10 0 9)
  have R5 : Rp G (uR z 20 0 (u1 (u1 (u1 (u1 (u1 (z.1 20 0) 0 (z.1 10 0 0)) 1 (z.1 10 0 1)) 5 (z.1 10 0 5)) 7 (z.1 10 0 7)) 9 (z.1 10 0 9))) h5 := (uI_uR z 20 0 9 (u1 (u1 (u1 (u1 (z.1 20 0) 0 (z.1 10 0 0)) 1 (z.1 10 0 1)) 5 (z.1 10 0 5)) 7 (z.1 10 0 7)) (z.1 10 0 9)) ▸ R5
  have e5 : sF 8 h4 (z.2.2.2 (bst true)) 9 (.int (z.1 10 0 9)) = some h5 := e5
  have g5 : gI 8 h5 (z.2.2.2 (bst false)) 11 = some (z.1 10 0 11) := by
    have := g_st_11 (b := false) R5
    exact this
  obtain ⟨h6, e6, R6⟩ := w_st_11 R5 (b := true) (z.1 10 0 11)
  have R6 : Rp G (uR z 20 0 (u1 (u1 (u1 (u1 (u1 (u1 (z.1 20 0) 0 (z.1 10 0 0)) 1 (z.1 10 0 1)) 5 (z.1 10 0 5)) 7 (z.1 10 0 7)) 9 (z.1 10 0 9)) 11 (z.1 10 0 11))) h6 := (uI_uR z 20 0 11 (u1 (u1 (u1 (u1 (u1 (z.1 20 0) 0 (z.1 10 0 0)) 1 (z.1 10 0 1)) 5 (z.1 10 0 5)) 7 (z.1 10 0 7)) 9 (z.1 10 0 9)) (z.1 10 0 11)) ▸ R6
  have e6 : sF 8 h5 (z.2.2.2 (bst true)) 11 (.int (z.1 10 0 11)) = some h6 := e6
  obtain ⟨za, hza⟩ : ∃ q, q = uR z 20 0 (u1 (u1 (u1 (u1 (u1 (u1 (z.1 20 0) 0 (z.1 10 0 0)) 1 (z.1 10 0 1)) 5 (z.1 10 0 5)) 7 (z.1 10 0 7)) 9 (z.1 10 0 9)) 11 (z.1 10 0 11)) := ⟨_, rfl⟩
  rw [← hza] at R6
  have q2 : za.2 = z.2 := by rw [hza]; rfl
  have qg : ∀ g, ¬ g = 20 → za.1 g = z.1 g := fun g hg => by rw [hza]; exact uG_n _ _ hg
  have s7 : gR 8 h6 (z.2.2.2 (bst false)) 2 = some (z.2.2.2 (bsa false 0)) := by
    have := g_st_2 (b := false) R6
    rw [q2] at this
    exact this
  have t7 : gR 8 h6 (z.2.2.2 (bst true)) 2 = some (z.2.2.2 (bsa true 0)) := by
    have := g_st_2 (b := true) R6
    rw [q2] at this
    exact this
  obtain ⟨h7, e7, R7⟩ := s_cpw0 R6
  rw [q2] at e7
  have R7 : Rp G (uR za 21 0 (va_cpy (za.1 11 0) (za.1 21 0) 0 0 24)) h7 := R7
  obtain ⟨zb, hzb⟩ : ∃ q, q = uR za 21 0 (va_cpy (za.1 11 0) (za.1 21 0) 0 0 24) := ⟨_, rfl⟩
  rw [← hzb] at R7
  have q2b : zb.2 = z.2 := by rw [hzb]; exact q2
  have qb : ∀ g, g < 20 → zb.1 g = z.1 g := fun g hg => by
    rw [hzb]
    exact (uG_n _ _ (by omega)).trans (qg g (by omega))
  have s8 : gR 8 h7 (z.2.2.2 (bst false)) 3 = some (z.2.2.2 (bsa false 1)) := by
    have := g_st_3 (b := false) R7
    rw [q2b] at this
    exact this
  have t8 : gR 8 h7 (z.2.2.2 (bst true)) 3 = some (z.2.2.2 (bsa true 1)) := by
    have := g_st_3 (b := true) R7
    rw [q2b] at this
    exact this
  obtain ⟨h8, e8, R8⟩ := s_cpw1 R7
  rw [q2b] at e8
  have R8 : Rp G (uR zb 21 1 (va_cpy (zb.1 11 1) (zb.1 21 1) 0 0 24)) h8 := R8
  obtain ⟨zc, hzc⟩ : ∃ q, q = uR zb 21 1 (va_cpy (zb.1 11 1) (zb.1 21 1) 0 0 24) := ⟨_, rfl⟩
  rw [← hzc] at R8
  have q2c : zc.2 = z.2 := by rw [hzc]; exact q2b
  have qc : ∀ g, g < 20 → zc.1 g = z.1 g := fun g hg => by
    rw [hzc]
    exact (uG_n _ _ (by omega)).trans (qb g hg)
  have s9 : gR 8 h8 (z.2.2.2 (bst false)) 4 = some (z.2.2.2 (bsa false 2)) := by
    have := g_st_4 (b := false) R8
    rw [q2c] at this
    exact this
  have t9 : gR 8 h8 (z.2.2.2 (bst true)) 4 = some (z.2.2.2 (bsa true 2)) := by
    have := g_st_4 (b := true) R8
    rw [q2c] at this
    exact this
  obtain ⟨h9, e9, R9⟩ := s_cpw2 R8 (by
    have e : zc.1 (gm false 1) = z.1 11 := qc 11 (by decide)
    rw [e]
    exact h01)
  rw [q2c] at e9
  have R9 : Rp G (uR zc 21 2 (va_cpy (zc.1 11 2) (zc.1 21 2) 0 0 24)) h9 := R9
  obtain ⟨zd, hzd⟩ : ∃ q, q = uR zc 21 2 (va_cpy (zc.1 11 2) (zc.1 21 2) 0 0 24) := ⟨_, rfl⟩
  rw [← hzd] at R9
  have q2d : zd.2 = z.2 := by rw [hzd]; exact q2c
  have qd : ∀ g, g < 20 → zd.1 g = z.1 g := fun g hg => by
    rw [hzd]
    exact (uG_n _ _ (by omega)).trans (qc g hg)
  have s10 : gR 8 h9 (z.2.2.2 (bst false)) 6 = some (z.2.2.2 (bsa false 3)) := by
    have := g_st_6 (b := false) R9
    rw [q2d] at this
    exact this
  have t10 : gR 8 h9 (z.2.2.2 (bst true)) 6 = some (z.2.2.2 (bsa true 3)) := by
    have := g_st_6 (b := true) R9
    rw [q2d] at this
    exact this
  have l10 : aLen G h9 (z.2.2.2 (bsa true 3)) = some (nI 160) := by
    have := aLen_of (R9.at (e_s3 (b := true))) (by decide) (R9.de (e_s3 (b := true)))
    rw [q2d] at this
    exact this
  obtain ⟨h10, e10, R10⟩ := s_cpa3 R9
  rw [q2d] at e10
  have R10 : Rp G (uG zd 22 (cpN 16 (zd.1 12) (zd.1 22))) h10 := R10
  obtain ⟨ze, hze⟩ : ∃ q, q = uG zd 22 (cpN 16 (zd.1 12) (zd.1 22)) := ⟨_, rfl⟩
  rw [← hze] at R10
  have q2e : ze.2 = z.2 := by rw [hze]; exact q2d
  have qe : ∀ g, g < 20 → ze.1 g = z.1 g := fun g hg => by
    rw [hze]
    exact (uG_n _ _ (by omega)).trans (qd g hg)
  have s11 : gR 8 h10 (z.2.2.2 (bst false)) 8 = some (z.2.2.2 (bsa false 4)) := by
    have := g_st_8 (b := false) R10
    rw [q2e] at this
    exact this
  have t11 : gR 8 h10 (z.2.2.2 (bst true)) 8 = some (z.2.2.2 (bsa true 4)) := by
    have := g_st_8 (b := true) R10
    rw [q2e] at this
    exact this
  have l11 : aLen G h10 (z.2.2.2 (bsa true 4)) = some (nI 72) := by
    have := aLen_of (R10.at (e_s4 (b := true))) (by decide) (R10.de (e_s4 (b := true)))
    rw [q2e] at this
    exact this
  obtain ⟨h11, e11, R11⟩ := s_cpa4 R10
  rw [q2e] at e11
  have R11 : Rp G (uG ze 23 (cpN 12 (ze.1 13) (ze.1 23))) h11 := R11
  obtain ⟨zf, hzf⟩ : ∃ q, q = uG ze 23 (cpN 12 (ze.1 13) (ze.1 23)) := ⟨_, rfl⟩
  rw [← hzf] at R11
  have q2f : zf.2 = z.2 := by rw [hzf]; exact q2e
  have qf : ∀ g, g < 20 → zf.1 g = z.1 g := fun g hg => by
    rw [hzf]
    exact (uG_n _ _ (by omega)).trans (qe g hg)
  have s12 : gR 8 h11 (z.2.2.2 (bst false)) 10 = some (z.2.2.2 (bsa false 5)) := by
    have := g_st_10 (b := false) R11
    rw [q2f] at this
    exact this
  have t12 : gR 8 h11 (z.2.2.2 (bst true)) 10 = some (z.2.2.2 (bsa true 5)) := by
    have := g_st_10 (b := true) R11
    rw [q2f] at this
    exact this
  have l12 : aLen G h11 (z.2.2.2 (bsa true 5)) = some (nI 40) := by
    have := aLen_of (R11.at (e_s5 (b := true))) (by decide) (R11.de (e_s5 (b := true)))
    rw [q2f] at this
    exact this
  obtain ⟨h12, e12, R12⟩ := s_cpa5 R11
  rw [q2f] at e12
  have R12 : Rp G (uG zf 24 (cpN 20 (zf.1 14) (zf.1 24))) h12 := R12
  obtain ⟨zg, hzg⟩ : ∃ q, q = uG zf 24 (cpN 20 (zf.1 14) (zf.1 24)) := ⟨_, rfl⟩
  rw [← hzg] at R12
  have q2g : zg.2 = z.2 := by rw [hzg]; exact q2f
  have qg : ∀ g, g < 20 → zg.1 g = z.1 g := fun g hg => by
    rw [hzg]
    exact (uG_n _ _ (by omega)).trans (qf g hg)
  refine ⟨h12, zg, ?_, R12, q2g, qg, ?_, ?_, ?_, ?_, ?_⟩
  · simp only [f_X7_become, g_st_0 R (b := false), rd_s, show z.1 (gm false 0) 0 0 = z.1 10 0 0 from rfl, e1, g1, e2, g2, e3, g3, e4, g4, e5, g5, e6, s7, t7, e7, s8, t8, e8, s9, t9, e9, s10, t10, l10, e10, s11, t11, l11, e11, s12, t12, l12, e12]
  · rw [hzg, hzf, hze, hzd, hzc, hzb, hza]
    exact ⟨rfl, rfl, rfl, rfl, rfl, rfl⟩
  · have hb0 : zb.1 21 0 = va_cpy (z.1 11 0) (z.1 21 0) 0 0 24 := by rw [hzb, hza]; rfl
    have hc1 : zc.1 21 1 = va_cpy (z.1 11 1) (z.1 21 1) 0 0 24 := by rw [hzc, hzb, hza]; rfl
    have hd2 : zd.1 21 2 = va_cpy (z.1 11 2) (z.1 21 2) 0 0 24 := by rw [hzd, hzc, hzb, hza]; rfl
    have hg0 : zg.1 21 0 = zb.1 21 0 := by rw [hzg, hzf, hze, hzd, hzc]; rfl
    have hg1 : zg.1 21 1 = zc.1 21 1 := by rw [hzg, hzf, hze, hzd]; rfl
    have hg2 : zg.1 21 2 = zd.1 21 2 := by rw [hzg, hzf, hze]; rfl
    intro r i hr hi
    match r, hr with
    | 0, _ => rw [hg0, hb0, pk_cpy_in (Nat.zero_le _) (by omega), Nat.zero_add, Nat.sub_zero]
    | 1, _ => rw [hg1, hc1, pk_cpy_in (Nat.zero_le _) (by omega), Nat.zero_add, Nat.sub_zero]
    | 2, _ => rw [hg2, hd2, pk_cpy_in (Nat.zero_le _) (by omega), Nat.zero_add, Nat.sub_zero]
  · intro v hv
    have h1 : zg.1 22 = cpN 16 (z.1 12) (z.1 22) := by rw [hzg, hzf, hze, hzd, hzc, hzb, hza]; rfl
    rw [h1]
    exact if_pos hv
  · intro v hv
    have h1 : zg.1 23 = cpN 12 (z.1 13) (z.1 23) := by rw [hzg, hzf, hze, hzd, hzc, hzb, hza]; rfl
    rw [h1]
    exact if_pos hv
  · intro v hv
    have h1 : zg.1 24 = cpN 20 (z.1 14) (z.1 24) := by rw [hzg, hzf, hze, hzd, hzc, hzb, hza]; rfl
    rw [h1]
    exact if_pos hv
