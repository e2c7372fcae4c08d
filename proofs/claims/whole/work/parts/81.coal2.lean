/-! ===== coalition, of both ===== -/
def mFin (k18 : Nat → Int32 → Int32 → Int32 → Int32 → PH → Option (Int32 × PH)) (X : Nat) (all b v : Int32) (s : Nat) (V : Int32) (h : PH) : Option (Int32 × PH) :=
  if all < (2 : Int32) * V then (if b = 0 then k18 X all (nI s) V (nI (s + 1)) h else if BC b - BC (nI s) < 0 then k18 X all b v (nI (s + 1)) h else if BC b - BC (nI s) = 0 then (if v < V then k18 X all (nI s) V (nI (s + 1)) h else k18 X all b v (nI (s + 1)) h) else k18 X all (nI s) V (nI (s + 1)) h) else k18 X all b v (nI (s + 1)) h
theorem sl_mco35 {G : GE} {z : Zs} {h : PH} (R : Rp G z h) {n : Nat} (hn : z.1 10 0 5 = nI n) (h16 : n ≤ 16) (k18 : Nat → Int32 → Int32 → Int32 → Int32 → PH → Option (Int32 × PH)) (all b v : Int32) (s : Nat) : ∀ d p fuel, p + d = 4 → d < fuel → f_X8_coalition_b35 G k18 fuel (z.2.2.2 bX) all b v (nI s) (sumV (pT z n s) p) (nI p) h = mFin k18 (z.2.2.2 bX) all b v s (sumV (pT z n s) 4) h := by
  intro d
  induction d with
  | zero =>
    intro p fuel hk hf
    obtain ⟨fuel, rfl⟩ : ∃ q, fuel = q + 1 := ⟨fuel - 1, by omega⟩
    obtain rfl : p = 4 := by omega
    show f_X8_coalition_b35_body G k18 (f_X8_coalition_b35 G k18 fuel) (z.2.2.2 bX) all b v (nI s) _ (nI 4) h = _
    simp only [f_X8_coalition_b35_body, if_pos (show (4 : Int32) ≤ nI 4 from Int32.le_refl _), s_bc, bd_s, f_X8_coalition_b120, f_X8_coalition_b126, nI_1, mFin]
  | succ d ih =>
    intro p fuel hk hf
    obtain ⟨fuel, rfl⟩ : ∃ q, fuel = q + 1 := ⟨fuel - 1, by omega⟩
    have i' := ih (p + 1) fuel (by omega) (by omega)
    rw [← i']
    show f_X8_coalition_b35_body G k18 (f_X8_coalition_b35 G k18 fuel) (z.2.2.2 bX) all b v (nI s) _ (nI p) h = _
    by_cases c : ((nI s >>> (nI p &&& 31)) &&& (1 : Int32)) = (1 : Int32)
    · have e : sumV (pT z n s) (p + 1) = sumV (pT z n s) p + mPT z (nI p) 1 n := by
        rw [sumV, pT, if_pos c]
      simp only [f_X8_coalition_b35_body, if_neg (show ¬ (4 : Int32) ≤ nI p from nI_ge (show p < 4 by omega) (by decide)), if_pos c, c_oX R, rd_s, s_partyTold R hn h16, bd_s, f_X8_coalition_b65, nI_1, e]
    · have e : sumV (pT z n s) (p + 1) = sumV (pT z n s) p + 0 := by
        rw [sumV, pT, if_neg c]
      simp only [f_X8_coalition_b35_body, if_neg (show ¬ (4 : Int32) ≤ nI p from nI_ge (show p < 4 by omega) (by decide)), if_neg c, f_X8_coalition_b65, nI_1, e]
theorem sl_mco {G : GE} {z : Zs} {h : PH} (R : Rp G z h) {n : Nat} (hn : z.1 10 0 5 = nI n) (h16 : n ≤ 16) {all : Int32} (ha : ¬ all ≤ 0) {V : Nat → Int32} (hV : ∀ s, sumV (pT z n s) 4 = V s) : ∀ d s fuel b v, s + d = 16 → d < fuel → isB 16 b → f_X8_coalition_b18 G fuel (z.2.2.2 bX) all b v (nI s) h = some (coS all V d s b v, h) := by
  intro d
  induction d with
  | zero =>
    intro s fuel b v hk hf hb
    obtain ⟨fuel, rfl⟩ : ∃ q, fuel = q + 1 := ⟨fuel - 1, by omega⟩
    obtain rfl : s = 16 := by omega
    show f_X8_coalition_b18_body G (f_X8_coalition_b18 G fuel) (z.2.2.2 bX) all b v (nI 16) h = _
    simp only [f_X8_coalition_b18_body, if_pos (show (16 : Int32) ≤ nI 16 from Int32.le_refl _), f_X8_coalition_b132, coS]
  | succ d ih =>
    intro s fuel b v hk hf hb
    obtain ⟨fuel, rfl⟩ : ∃ q, fuel = q + 1 := ⟨fuel - 1, by omega⟩
    have hs : s < 16 := by omega
    have t := sl_mco35 R hn h16 (f_X8_coalition_b18 G fuel) all b v s 4 0 LF (by omega) (by unfold LF; omega)
    have t : f_X8_coalition_b35 G (f_X8_coalition_b18 G fuel) LF (z.2.2.2 bX) all b v (nI s) (0 : Int32) (0 : Int32) h = _ := t
    have keep := ih (s + 1) fuel b v (by omega) (by omega) hb
    have take := ih (s + 1) fuel (nI s) (V s) (by omega) (by omega) ⟨s, hs, rfl⟩
    show f_X8_coalition_b18_body G (f_X8_coalition_b18 G fuel) (z.2.2.2 bX) all b v (nI s) h = _
    rw [f_X8_coalition_b18_body, if_neg (show ¬ (16 : Int32) ≤ nI s from nI_ge hs (by decide)), if_neg ha, t, mFin, hV, Int32.mul_comm 2 (V s), keep, take, coS]
    obtain ⟨b', hb', rfl⟩ := hb
    by_cases c : all < V s * 2
    · rw [if_pos c, if_pos c]
      by_cases cb : nI b' = 0
      · rw [if_pos cb, if_pos cb]
      · rw [if_neg cb, if_neg cb]
        rcases BC_t s hs b' hb' with ⟨q1, q2, q3⟩ | ⟨q1, q2, q3, q4⟩ | ⟨q1, q2, q3⟩
        · rw [if_pos q1, if_neg q2, if_neg q3]
        · rw [if_neg q2, if_pos q1, if_neg q4, if_pos q3]
          by_cases cv : V s ≤ v
          · rw [if_pos cv, if_neg (Int32.not_lt.mpr cv)]
          · rw [if_neg cv, if_pos (Int32.not_le.mp cv)]
        · rw [if_neg q1, if_neg q2, if_pos q3]
    · rw [if_neg c, if_neg c]
theorem coS_0 {all : Int32} {V : Nat → Int32} (hV : ∀ s, V s = 0) (ha : ¬ all < 0) : ∀ d s b v, coS all V d s b v = b := by
  intro d
  induction d with
  | zero => intro s b v; rfl
  | succ d ih =>
    intro s b v
    rw [coS, hV, if_neg (show ¬ all < 0 * 2 from ha), ih]
theorem sumV_z {f : Nat → Int32} : ∀ n, n ≤ 16 → (∀ j, j < n → isB 10 (f j)) → sumV f n ≤ 0 → ∀ j, j < n → f j = 0 := by
  intro n
  induction n with
  | zero => intro _ _ _ j hj; omega
  | succ n ih =>
    intro h16 hB h0 j hj
    obtain ⟨a, ha, ea⟩ := sumV_B (K := 9) n (fun j hj => hB j (by omega))
    obtain ⟨b, hb, eb⟩ := hB n (by omega)
    rw [sumV, ea, eb, nI_add] at h0
    have hab : a + b = 0 := Decidable.byContradiction (fun hc => nI_ge (a := 0) (b := a + b) (by omega) (by omega) h0)
    obtain rfl : a = 0 := by omega
    obtain rfl : b = 0 := by omega
    by_cases e : j = n
    · rw [e, eb]
      rfl
    · exact ih (by omega) (fun j hj => hB j (by omega)) (by rw [ea]; decide) j (by omega)
theorem ls_coalition {G : GE} {x y o : Nat} : LS_coalition G x y o (IV G x y o) := by
  rintro h ⟨z, R, ⟨rfl, rfl, rfl⟩, Gd⟩
  have Gd' := Gd
  obtain ⟨n, W, H0, ne, S, g1, g2, g3, g4, g5, g6, g7, g8, g9⟩ := Gd
  have H := S.2.1
  have C := H.1
  have M := S.2.2.2.1
  have h16 := (C.t false).2.2.2
  have t := sl_co R C (kOf z false 15 n) 15 1 LF 0 0 (by omega) (by unfold LF; omega)
  have t : f_X6_coalition_b15 G LF (z.2.2.2 bV) (kOf z false 15 n) (0 : Int32) (0 : Int32) (1 : Int32) h = _ := t
  refine both_yy R Gd' (r := coS (kOf z false 15 n) (fun s => kOf z false (nI s) n) 15 1 0 0) ?_ (fun h3 e3 R3 => ?_)
  · simp only [f_X6_coalition, g_V_4 R, rd_s, c_otn R, s_allVotes R (C.t false), bd_s, t]
  · obtain ⟨i9, x1, x2, i8, -⟩ : NF z h3 := R3.nf
    obtain ⟨h4, e4, R4⟩ := s_counted (z := uI z 0 1 0 0) R3 (n := n) (W := W) (t := H0) (q := 5) M (by decide)
    have e4 : f_X8_counted G (z.2.2.2 bX) (5 : Int32) h3 = some (kOf z false 15 n, h4) := by rw [eq_all S]; exact e4
    refine ⟨_, h4, ?_, rfl, R4⟩
    by_cases c : kOf z false 15 n ≤ 0
    · have hB : ∀ j, j < n → isB 10 (z.1 12 j 4) := fun j hj => by
        rw [← show z.1 6 j 4 = z.1 12 j 4 from S.1.1 j hj 4 (by decide) (by decide)]
        exact (H.2.2.2.2 j hj).1
      have hv : ∀ j, j < n → z.1 12 j 4 = 0 := sumV_z n h16 hB (by rw [eq_all S] at c; exact c)
      have hV : ∀ s, (fun s => kOf z false (nI s) n) s = 0 := fun s => by
        have h0 : ∀ k, sumV (fun _ => (0 : Int32)) k = 0 := fun k => by
          induction k with
          | zero => rfl
          | succ k ih => rw [sumV, ih]; rfl
        refine (sumV_c n (fun j hj => ?_)).trans (h0 n)
        rw [show z.1 (gv false) j 4 = 0 from (show z.1 6 j 4 = z.1 12 j 4 from S.1.1 j hj 4 (by decide) (by decide)).trans (hv j hj)]
        split <;> rfl
      have ha : ¬ kOf z false 15 n < 0 := by
        rw [eq_all S]
        obtain ⟨a, ha, ea⟩ := sumV_B (K := 9) n hB
        have ea : mCv z n = nI a := ea
        rw [ea]
        exact nI_pos (by omega)
      rw [coS_0 hV ha]
      have hl : f_X8_coalition_b18 G LF (z.2.2.2 bX) (kOf z false 15 n) (0 : Int32) (0 : Int32) (1 : Int32) h4 = some (0, h4) := by
        show f_X8_coalition_b18_body G (f_X8_coalition_b18 G 99999) (z.2.2.2 bX) (kOf z false 15 n) (0 : Int32) (0 : Int32) (1 : Int32) h4 = _
        simp only [f_X8_coalition_b18_body, if_neg (show ¬ (16 : Int32) ≤ 1 by decide), if_pos c, f_X8_coalition_b132]
      simp only [f_X8_coalition, e3, rd_s, i9, e4, bd_s, hl]
    · have u := sl_mco (z := uI z 0 1 0 0) R4 (n := n) M.1 h16 c (V := fun s => kOf z false (nI s) n) (fun s => pT_sum S s) 15 1 LF 0 0 (by omega) (by unfold LF; omega) (isB_0 (by decide))
      have u : f_X8_coalition_b18 G LF (z.2.2.2 bX) (kOf z false 15 n) (0 : Int32) (0 : Int32) (1 : Int32) h4 = _ := u
      simp only [f_X8_coalition, e3, rd_s, i9, e4, bd_s, u]
