/-! ===== hours that pass, and hours ahead ===== -/
/-- nothing but the rows of the vanes b is other -/
def AH (b : Bool) (z z' : Zs) : Prop := z'.2 = z.2 ∧ ∀ g, ¬ g = gv b → z'.1 g = z.1 g
theorem AH.rf (b : Bool) (z : Zs) : AH b z z := ⟨rfl, fun _ _ => rfl⟩
theorem AH.tr {b : Bool} {x y z : Zs} (h : AH b x y) (g : AH b y z) : AH b x z := ⟨g.1.trans h.1, fun a ha => (g.2 a ha).trans (h.2 a ha)⟩
theorem AH.uv (b : Bool) (z : Zs) (F : Nat → Nat → Int32) : AH b z (uG z (gv b) F) := ⟨rfl, fun _ hg => uG_n _ _ hg⟩
theorem AH.sk {b : Bool} {z z' : Zs} (h : AH b z z') : SK z z' := by
  have e : ∀ g, g < 6 → z'.1 g = z.1 g := fun g hg => h.2 g (by cases b <;> simp only [gv] <;> omega)
  exact ⟨h.1, e 1 (by decide), e 3 (by decide), e 4 (by decide), e 5 (by decide), fun m k _ => by rw [e 2 (by decide)]⟩
theorem AH.z0 {b : Bool} {z z' : Zs} (h : AH b z z') : z'.1 0 = z.1 0 := h.2 0 (by cases b <;> decide)
theorem AH.rw' {b : Bool} {z : Zs} (i : Nat) (r : Nat → Int32) : AH b z (uR z (gv b) i r) := AH.uv b z _
theorem blS_AH (b : Bool) (n t : Nat) (z : Zs) : AH b z (blS b n t z) := AH.uv _ _ _
theorem vI_AH (b : Bool) (n : Nat) (t : Int32) (k : Nat) (z : Zs) : AH b z (vI b n 0 t k z) := by
  induction k with
  | zero => exact AH.rf b z
  | succ k ih =>
    show AH b z (vS b n 0 t k (vI b n 0 t k z))
    generalize vI b n 0 t k z = y at ih
    refine ih.tr ?_
    unfold vS
    by_cases c : y.1 3 k 1 = t
    · rw [if_pos c]
      unfold vE
      simp only [if_true]
      by_cases c2 : kCarr y b (y.1 3 k 0).toNatClampNeg n = 0
      · rw [if_pos c2]
        exact AH.rf b y
      · rw [if_neg c2]
        exact AH.uv _ _ _
    · rw [if_neg c]
      exact AH.rf b y
theorem enS_AH (b : Bool) (n t : Nat) (z : Zs) : AH b z (enS b n 0 t z) := by
  refine (vI_AH b n (nI t) (z.2.1 2) z).tr ?_
  show AH b (vI b n 0 (nI t) (z.2.1 2) z) (raS b n t (vI b n 0 (nI t) (z.2.1 2) z))
  unfold raS
  by_cases c : (vI b n 0 (nI t) (z.2.1 2) z).1 1 (t % (vI b n 0 (nI t) (z.2.1 2) z).2.1 0) 2 = 0
  · rw [if_pos c]
    exact AH.rf _ _
  · rw [if_neg c]
    exact AH.uv _ _ _
/-- an hour of a town -/
def hoS (b : Bool) (n : Nat) (rec : Int32) (t : Nat) (z : Zs) : Zs := enS b n rec t (blS b n t z)
theorem hoS_AH (b : Bool) (n t : Nat) (z : Zs) : AH b z (hoS b n 0 t z) := (blS_AH b n t z).tr (enS_AH b n t _)
theorem hoS_HB {z : Zs} {b : Bool} {n : Nat} (H : HB z b n) (rec : Int32) (t : Nat) : HB (hoS b n rec t z) b n := enS_HB (blS_HB H t) rec t
/-- until the motion m passes -/
def hwP (m n H0 : Nat) : Nat → Nat → Zs → Nat
  | 0, i, _ => i
  | d + 1, i, z => if kCarr (blS true n (H0 + i) z) true m n = 0 then hwP m n H0 d (i + 1) (hoS true n 0 (H0 + i) z) else i
theorem s_V6 {G : GE} {z : Zs} {h : PH} (R : Rp G z h) {H0 : Nat} (hH : z.1 0 0 0 = nI H0) : gI 7 h (z.2.2.2 bV) 6 = some (nI H0) := by
  rw [g_V_6 R, hH]
theorem sl_hours {G : GE} {n m H0 N : Nat} (hN : H0 + N < 2 ^ 31) : ∀ d i fuel z h, i + d = N → d < fuel → Rp G z h → HB z true n → m < z.2.1 1 → z.1 0 0 0 = nI H0 → ∃ h' z', f_X6_hoursUntilItPasses_b2 G fuel (z.2.2.2 bV) (z.2.2.2 (bmo m)) (nI N) (nI i) h = some (nI (hwP m n H0 d i z), h') ∧ Rp G z' h' ∧ HB z' true n ∧ AH true z z' := by
  intro d
  induction d with
  | zero =>
    intro i fuel z h hk hf R H hm hH
    obtain ⟨fuel, rfl⟩ : ∃ q, fuel = q + 1 := ⟨fuel - 1, by omega⟩
    obtain rfl : i = N := by omega
    refine ⟨h, z, ?_, R, H, AH.rf _ _⟩
    show f_X6_hoursUntilItPasses_b2_body G (f_X6_hoursUntilItPasses_b2 G fuel) (z.2.2.2 bV) (z.2.2.2 (bmo m)) (nI i) (nI i) h = _
    simp only [f_X6_hoursUntilItPasses_b2_body, if_pos (Int32.le_refl _), hwP]
  | succ d ih =>
    intro i fuel z h hk hf R H hm hH
    obtain ⟨fuel, rfl⟩ : ∃ q, fuel = q + 1 := ⟨fuel - 1, by omega⟩
    have hiN : i < N := by omega
    obtain ⟨h1, e1, R1⟩ := s_blS R H (t := H0 + i)
    have H1 := blS_HB H (H0 + i)
    have A1 := blS_AH true n (H0 + i) z
    have hw : nI H0 + nI i = nI (H0 + i) := nI_add _ _
    have c1 : f_X3_carries G (z.2.2.2 (btn true)) (z.2.2.2 (bmo m)) h1 = some (kCarr (blS true n (H0 + i) z) true m n, h1) := s_carries R1 (H1.1.t true) (m := m) hm
    have g5 : gR 7 h1 (z.2.2.2 bV) 5 = some (z.2.2.2 (btn true)) := g_V_5 (z := blS true n (H0 + i) z) R1
    have g6 : gI 7 h1 (z.2.2.2 bV) 6 = some (nI H0) := s_V6 (z := blS true n (H0 + i) z) R1 (by rw [A1.z0]; exact hH)
    have i4 : isC 4 h1 (z.2.2.2 (btn true)) = some () := c_otn (z := blS true n (H0 + i) z) R1
    have i7 : isC 7 h1 (z.2.2.2 bV) = some () := c_oV (z := blS true n (H0 + i) z) R1
    by_cases c : kCarr (blS true n (H0 + i) z) true m n = 0
    · obtain ⟨h2, e2, R2⟩ := s_voteAndRain R1 H1 (t := H0 + i) (by omega) 0
      have e2 : f_X6_voteAndRain G (z.2.2.2 bV) (z.2.2.2 (btn true)) (nI (H0 + i)) 0 h1 = some (_, h2) := e2
      have R2 : Rp G (hoS true n 0 (H0 + i) z) h2 := R2
      have H2 : HB (hoS true n 0 (H0 + i) z) true n := hoS_HB H 0 _
      have A2 := hoS_AH true n (H0 + i) z
      obtain ⟨h', z', e', R', H', A'⟩ := ih (i + 1) fuel _ h2 (by omega) (by omega) R2 H2 (by rw [A2.1]; exact hm) (by rw [A2.z0]; exact hH)
      rw [A2.1] at e'
      refine ⟨h', z', ?_, R', H', A2.tr A'⟩
      show f_X6_hoursUntilItPasses_b2_body G (f_X6_hoursUntilItPasses_b2 G fuel) (z.2.2.2 bV) (z.2.2.2 (bmo m)) (nI N) (nI i) h = _
      simp only [f_X6_hoursUntilItPasses_b2_body, if_neg (nI_ge hiN (show N < 2 ^ 31 by omega)), g_V_5 R, rd_s, bd_s, s_V6 R hH, c_oV R, hw, s_windAt R H.1 (show H0 + i < 2 ^ 31 by omega), c_otn R, e1, g5, i4, c1, if_pos c, g6, i7, e2, nI_1, e', hwP]
    · refine ⟨h1, _, ?_, R1, H1, A1⟩
      show f_X6_hoursUntilItPasses_b2_body G (f_X6_hoursUntilItPasses_b2 G fuel) (z.2.2.2 bV) (z.2.2.2 (bmo m)) (nI N) (nI i) h = _
      simp only [f_X6_hoursUntilItPasses_b2_body, if_neg (nI_ge hiN (show N < 2 ^ 31 by omega)), g_V_5 R, rd_s, bd_s, s_V6 R hH, c_oV R, hw, s_windAt R H.1 (show H0 + i < 2 ^ 31 by omega), c_otn R, e1, g5, i4, c1, if_neg c, hwP]
theorem s_hours {G : GE} {z : Zs} {h : PH} (R : Rp G z h) {n m H0 N : Nat} (H : HB z true n) (hm : m < z.2.1 1) (hH : z.1 0 0 0 = nI H0) (hN : H0 + N ≤ 2000) : ∃ h' z', f_X6_hoursUntilItPasses G (z.2.2.2 bV) (z.2.2.2 (bmo m)) (nI N) h = some (nI (hwP m n H0 N 0 z), h') ∧ Rp G z' h' ∧ HB z' true n ∧ AH true z z' :=
  sl_hours (by omega) N 0 LF z h (by omega) (by unfold LF; omega) R H hm hH
/-- hours of the town ahead -/
def foZ (n H0 : Nat) : Nat → Nat → Zs → Zs
  | 0, _, z => z
  | d + 1, i, z => foZ n H0 d (i + 1) (hoS true n 0 (H0 + i) z)
theorem sl_foresee {G : GE} {n v H0 N : Nat} (hN : H0 + N < 2 ^ 31) (hv : v < n) : ∀ d i fuel z h, i + d = N → d < fuel → Rp G z h → HB z true n → z.1 0 0 0 = nI H0 → ∃ h' z', f_X6_foresee_b73 G fuel (z.2.2.2 bV) (nI v) (nI N) (nI i) h = some (.inl ((foZ n H0 d i z).1 7 v 6), h') ∧ Rp G z' h' ∧ HB z' true n ∧ AH true z z' := by
  intro d
  induction d with
  | zero =>
    intro i fuel z h hk hf R H hH
    obtain ⟨fuel, rfl⟩ : ∃ q, fuel = q + 1 := ⟨fuel - 1, by omega⟩
    obtain rfl : i = N := by omega
    refine ⟨h, z, ?_, R, H, AH.rf _ _⟩
    show f_X6_foresee_b73_body G (f_X6_foresee_b73 G fuel) (z.2.2.2 bV) (nI v) (nI i) (nI i) h = _
    simp only [f_X6_foresee_b73_body, if_pos (Int32.le_refl _), g_V_5 R, rd_s, c_otn R, s_directionOf R (H.1.t true) hv, bd_s, foZ, gv]
  | succ d ih =>
    intro i fuel z h hk hf R H hH
    obtain ⟨fuel, rfl⟩ : ∃ q, fuel = q + 1 := ⟨fuel - 1, by omega⟩
    have hiN : i < N := by omega
    obtain ⟨h1, e1, R1⟩ := s_blS R H (t := H0 + i)
    have H1 := blS_HB H (H0 + i)
    have A1 := blS_AH true n (H0 + i) z
    have hw : nI H0 + nI i = nI (H0 + i) := nI_add _ _
    have g5 : gR 7 h1 (z.2.2.2 bV) 5 = some (z.2.2.2 (btn true)) := g_V_5 (z := blS true n (H0 + i) z) R1
    have g6 : gI 7 h1 (z.2.2.2 bV) 6 = some (nI H0) := s_V6 (z := blS true n (H0 + i) z) R1 (by rw [A1.z0]; exact hH)
    have i7 : isC 7 h1 (z.2.2.2 bV) = some () := c_oV (z := blS true n (H0 + i) z) R1
    obtain ⟨h2, e2, R2⟩ := s_voteAndRain R1 H1 (t := H0 + i) (by omega) 0
    have e2 : f_X6_voteAndRain G (z.2.2.2 bV) (z.2.2.2 (btn true)) (nI (H0 + i)) 0 h1 = some (_, h2) := e2
    have R2 : Rp G (hoS true n 0 (H0 + i) z) h2 := R2
    have H2 : HB (hoS true n 0 (H0 + i) z) true n := hoS_HB H 0 _
    have A2 := hoS_AH true n (H0 + i) z
    obtain ⟨h', z', e', R', H', A'⟩ := ih (i + 1) fuel _ h2 (by omega) (by omega) R2 H2 (by rw [A2.z0]; exact hH)
    rw [A2.1] at e'
    refine ⟨h', z', ?_, R', H', A2.tr A'⟩
    show f_X6_foresee_b73_body G (f_X6_foresee_b73 G fuel) (z.2.2.2 bV) (nI v) (nI N) (nI i) h = _
    simp only [f_X6_foresee_b73_body, if_neg (nI_ge hiN (show N < 2 ^ 31 by omega)), g_V_5 R, rd_s, bd_s, s_V6 R hH, c_oV R, hw, s_windAt R H.1 (show H0 + i < 2 ^ 31 by omega), c_otn R, e1, g5, g6, i7, e2, nI_1, e', foZ]
/-- hours of the town: the vanes, the counts of the motions, the hour -/
def paZ (n : Nat) : Nat → Nat → Zs → Zs
  | 0, _, z => z
  | d + 1, t, z => paZ n d (t + 1) (uI (hoS false n 1 t z) 0 0 0 (nI (t + 1)))
def paK (n : Nat) : Nat → Nat → Zs → Int32
  | 0, _, _ => 0
  | d + 1, t, z => vK false n 1 (nI t) (z.2.1 2) (blS false n t z) + paK n d (t + 1) (uI (hoS false n 1 t z) 0 0 0 (nI (t + 1)))
theorem HB.u0 {z : Zs} {b : Bool} {n : Nat} (H : HB z b n) (i k : Nat) (x : Int32) : HB (uI z 0 i k x) b n := by
  refine H.sk (z' := uI z 0 i k x) ⟨rfl, rfl, rfl, rfl, rfl, fun _ _ _ => rfl⟩ ?_
  cases b <;> exact H.2.2.2.2
/-- what a pass leaves -/
theorem paZ_HB {n : Nat} : ∀ d t z, HB z false n → HB (paZ n d t z) false n := by
  intro d
  induction d with
  | zero => intro t z H; exact H
  | succ d ih => intro t z H; exact ih _ _ ((hoS_HB H 1 t).u0 0 0 _)
theorem paZ_2 {n : Nat} : ∀ d t z, (paZ n d t z).2 = z.2 := by
  intro d
  induction d with
  | zero => intro t z; rfl
  | succ d ih =>
    intro t z
    show (paZ n d (t + 1) (uI (hoS false n 1 t z) 0 0 0 (nI (t + 1)))).2 = z.2
    rw [ih, uI_2]
    exact ((blS_SK false n t z).tr (enS_SK false n 1 t _)).1
theorem sl_passL {G : GE} {n N H0 : Nat} {Q : Int32 → Zs → Option ((Sum Int32 String) × PH) → Prop}
    (hend : ∀ fuel z h x, Rp G z h → HB z false n → z.1 0 0 0 = nI (H0 + N) → Q x z (f_X6_pass_b46 G (fuel + 1) (z.2.2.2 bV) (nI N) x (nI N) h)) (hN : H0 + N < 2 ^ 31) :
    ∀ d i fuel z h x, i + d = N → d < fuel → Rp G z h → HB z false n → z.1 0 0 0 = nI (H0 + i) → Q (x + paK n d (H0 + i) z) (paZ n d (H0 + i) z) (f_X6_pass_b46 G fuel (z.2.2.2 bV) (nI N) x (nI i) h) := by
  intro d
  induction d with
  | zero =>
    intro i fuel z h x hk hf R H hH
    obtain ⟨fuel, rfl⟩ : ∃ q, fuel = q + 1 := ⟨fuel - 1, by omega⟩
    obtain rfl : i = N := by omega
    rw [paK, paZ, Int32.add_zero]
    exact hend fuel z h x R H hH
  | succ d ih =>
    intro i fuel z h x hk hf R H hH
    obtain ⟨fuel, rfl⟩ : ∃ q, fuel = q + 1 := ⟨fuel - 1, by omega⟩
    have hiN : i < N := by omega
    obtain ⟨h1, e1, R1⟩ := s_blS R H (t := H0 + i)
    have H1 := blS_HB H (H0 + i)
    have A1 := blS_AH false n (H0 + i) z
    have g4 : gR 7 h1 (z.2.2.2 bV) 4 = some (z.2.2.2 (btn false)) := g_V_4 (z := blS false n (H0 + i) z) R1
    have g6 : gI 7 h1 (z.2.2.2 bV) 6 = some (nI (H0 + i)) := s_V6 (z := blS false n (H0 + i) z) R1 (by rw [A1.z0]; exact hH)
    have i7 : isC 7 h1 (z.2.2.2 bV) = some () := c_oV (z := blS false n (H0 + i) z) R1
    obtain ⟨h2, e2, R2⟩ := s_voteAndRain R1 H1 (t := H0 + i) (by omega) 1
    have e2 : f_X6_voteAndRain G (z.2.2.2 bV) (z.2.2.2 (btn false)) (nI (H0 + i)) 1 h1 = some (vK false n 1 (nI (H0 + i)) (z.2.1 2) (blS false n (H0 + i) z), h2) := e2
    have R2 : Rp G (hoS false n 1 (H0 + i) z) h2 := R2
    have hq2 : (hoS false n 1 (H0 + i) z).2 = z.2 := ((blS_SK false n (H0 + i) z).tr (enS_SK false n 1 (H0 + i) _)).1
    have hz0 : (hoS false n 1 (H0 + i) z).1 0 0 0 = nI (H0 + i) := by
      have k1 : ∀ y : Zs, ∀ k, (vI false n 1 (nI (H0 + i)) k y).1 0 = y.1 0 := by
        intro y k
        induction k with
        | zero => rfl
        | succ k ihk =>
          show (vS false n 1 (nI (H0 + i)) k (vI false n 1 (nI (H0 + i)) k y)).1 0 = y.1 0
          generalize vI false n 1 (nI (H0 + i)) k y = u at ihk
          rw [← ihk]
          unfold vS
          by_cases c : u.1 3 k 1 = nI (H0 + i)
          · rw [if_pos c]
            unfold vE
            by_cases c2 : kCarr u false (u.1 3 k 0).toNatClampNeg n = 0
            · rw [if_pos c2]
              rfl
            · rw [if_neg c2]
              rfl
          · rw [if_neg c]
      have k2 : ∀ y : Zs, (raS false n (H0 + i) y).1 0 = y.1 0 := by
        intro y
        unfold raS
        by_cases c : y.1 1 ((H0 + i) % y.2.1 0) 2 = 0
        · rw [if_pos c]
        · rw [if_neg c]
          rfl
      unfold hoS enS
      rw [k2, k1, A1.z0]
      exact hH
    obtain ⟨h3, e3, R3⟩ := w_V_6 R2 (nI (H0 + i + 1))
    rw [hq2] at e3
    have H3 : HB (uI (hoS false n 1 (H0 + i) z) 0 0 0 (nI (H0 + i + 1))) false n := (hoS_HB H 1 (H0 + i)).u0 0 0 _
    have g6b : gI 7 h2 (z.2.2.2 bV) 6 = some (nI (H0 + i)) := by
      have := s_V6 R2 hz0
      rw [hq2] at this
      exact this
    have ih := ih (i + 1) fuel _ h3 (x + vK false n 1 (nI (H0 + i)) (z.2.1 2) (blS false n (H0 + i) z)) (by omega) (by omega) R3 H3 (by rw [uI_s]; rfl)
    rw [uI_2, hq2, Int32.add_assoc] at ih
    have : f_X6_pass_b46 G (fuel + 1) (z.2.2.2 bV) (nI N) x (nI i) h = f_X6_pass_b46 G fuel (z.2.2.2 bV) (nI N) (x + vK false n 1 (nI (H0 + i)) (z.2.1 2) (blS false n (H0 + i) z)) (nI (i + 1)) h3 := by
      show f_X6_pass_b46_body G (f_X6_pass_b46 G fuel) (z.2.2.2 bV) (nI N) x (nI i) h = _
      simp only [f_X6_pass_b46_body, if_neg (nI_ge hiN (show N < 2 ^ 31 by omega)), g_V_4 R, rd_s, bd_s, s_V6 R hH, c_oV R, s_windAt R H.1 (show H0 + i < 2 ^ 31 by omega), c_otn R, e1, g4, g6, i7, e2, g6b, nI_1, e3]
    rw [this]
    exact ih
