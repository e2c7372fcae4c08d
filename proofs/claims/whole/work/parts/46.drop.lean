/-! ===== past entries dropped; small answers ===== -/
def dropZ (H : Int32) : Nat → Zs → Zs
  | 0, z => z
  | i + 1, z => dropZ H i (if H ≤ z.1 3 i 1 then z else rmZ z i)
theorem sl_drop {G : GE} {H : Int32} : ∀ k fuel z h, k < fuel → Rp G z h → k ≤ z.2.1 52 → z.2.1 52 = z.2.1 2 → z.2.1 52 ≤ 20 → z.1 0 0 0 = H → ∃ h', f_X6_dropPastEntries_b10 G fuel (z.2.2.2 bV) (nI k - 1) h = some ((), h') ∧ Rp G (dropZ H k z) h' := by
  intro k
  induction k with
  | zero =>
    intro fuel z h hf R hk hA h20 hH
    obtain ⟨fuel, rfl⟩ : ∃ q, fuel = q + 1 := ⟨fuel - 1, by omega⟩
    refine ⟨h, ?_, R⟩
    show f_X6_dropPastEntries_b10_body G (f_X6_dropPastEntries_b10 G fuel) (z.2.2.2 bV) (nI 0 - 1) h = _
    rw [f_X6_dropPastEntries_b10_body, if_pos (by decide)]
  | succ k ih =>
    intro fuel z h hf R hk hA h20 hH
    obtain ⟨fuel, rfl⟩ : ∃ q, fuel = q + 1 := ⟨fuel - 1, by omega⟩
    have hka : k < z.2.1 2 := by omega
    have hg : f_Jx4a65c_get_915e3 G (z.2.2.2 (bL 2)) (nI k) h = some (z.2.2.2 (bae k), h) := s_get R (k := 2) (j := k) (by decide) (show k < z.2.1 52 by omega)
    have hm : nI k + (-1) = nI k - 1 := (Int32.sub_eq_add_neg _ _).symm
    by_cases c : H ≤ z.1 3 k 1
    · obtain ⟨h', e', R'⟩ := ih fuel z h (by omega) R (by omega) hA h20 hH
      refine ⟨h', ?_, by rw [dropZ, if_pos c]; exact R'⟩
      show f_X6_dropPastEntries_b10_body G (f_X6_dropPastEntries_b10 G fuel) (z.2.2.2 bV) (nI (k + 1) - 1) h = _
      simp only [nI_pred, f_X6_dropPastEntries_b10_body, if_neg (nI_pos (show k < 2 ^ 31 by omega)), g_V_3 R, rd_s, bd_s, c_oL R (show 2 < 5 by decide), hg, c_oae R hka, g_ae_1 R hka, g_V_6 R, hH, if_pos c, f_X6_dropPastEntries_b44, hm, e']
    · obtain ⟨h1, v, e1, R1⟩ := s_remove R (j := k) (by omega) hA
      obtain ⟨h', e', R'⟩ := ih fuel (rmZ z k) h1 (by omega) R1 (by show k ≤ z.2.1 52 - 1; omega) (by show z.2.1 52 - 1 = z.2.1 2 - 1; omega) (by show z.2.1 52 - 1 ≤ 20; omega) hH
      refine ⟨h', ?_, by rw [dropZ, if_neg c]; exact R'⟩
      have e' : f_X6_dropPastEntries_b10 G fuel (z.2.2.2 bV) (nI k - 1) h1 = some ((), h') := e'
      show f_X6_dropPastEntries_b10_body G (f_X6_dropPastEntries_b10 G fuel) (z.2.2.2 bV) (nI (k + 1) - 1) h = _
      simp only [nI_pred, f_X6_dropPastEntries_b10_body, if_neg (nI_pos (show k < 2 ^ 31 by omega)), g_V_3 R, rd_s, bd_s, c_oL R (show 2 < 5 by decide), hg, c_oae R hka, g_ae_1 R hka, g_V_6 R, hH, if_neg c, e1, f_X6_dropPastEntries_b44, hm, e']
theorem s_drop {G : GE} {z : Zs} {h : PH} (R : Rp G z h) (hA : z.2.1 52 = z.2.1 2) (h20 : z.2.1 52 ≤ 20) : ∃ h', f_X6_dropPastEntries G (z.2.2.2 bV) h = some ((), h') ∧ Rp G (dropZ (z.1 0 0 0) (z.2.1 52) z) h' := by
  obtain ⟨h', e', R'⟩ := sl_drop (H := z.1 0 0 0) (z.2.1 52) LF z h (by unfold LF; omega) R (Nat.le_refl _) hA h20 rfl
  refine ⟨h', ?_, R'⟩
  rw [f_X6_dropPastEntries, g_V_3 R, rd_s, c_oL R (by decide), rd_s, s_size R (by decide), bd_s]
  exact e'
/-- within -/
theorem s_isWithin {G : GE} {h : PH} (x a b : Int32) : f_X6_isWithin G x a b h = some (if x < a then 0 else if b < x then 0 else 1, h) := by
  simp only [f_X6_isWithin, f_X6_isWithin_b14, f_X6_isWithin_b15, z1_0, z1_1]
  split
  · rfl
  · split <;> rfl
theorem s_isDirection {G : GE} {h : PH} (x : Int32) : f_X6_isDirection G x h = some (if x < 0 then 0 else if (16 : Int32) ≤ x then 0 else 1, h) := by
  simp only [f_X6_isDirection, f_X6_isDirection_b14, f_X6_isDirection_b15, z1_0, z1_1]
  split
  · rfl
  · split <;> rfl
theorem s_isVane {G : GE} {z : Zs} {h : PH} (R : Rp G z h) {n : Nat} (C : CN z n) (x : Int32) : f_X6_isVane G (z.2.2.2 bV) x h = some (if x < 0 then 0 else if nI n ≤ x then 0 else 1, h) := by
  simp only [f_X6_isVane, f_X6_isVane_b22, f_X6_isVane_b23, z1_0, z1_1, g_V_4 R, rd_s, bd_s, g_tn_0 R, c_oL R (lb_lt _), s_szv R (C.t false)]
  split
  · rfl
  · split <;> rfl
theorem s_isMotion {G : GE} {z : Zs} {h : PH} (R : Rp G z h) {n : Nat} (C : CN z n) (x : Int32) : f_X6_isMotion G (z.2.2.2 bV) x h = some (if x < 0 then 0 else if nI (z.2.1 1) ≤ x then 0 else 1, h) := by
  have hs : f_Jx4a65c_size_8abf5 G (z.2.2.2 (bL 1)) h = some (nI (z.2.1 1), h) := by rw [s_size R (by decide), show z.2.1 (50 + 1) = z.2.1 1 from C.2.2.2.1]
  simp only [f_X6_isMotion, f_X6_isMotion_b19, f_X6_isMotion_b20, z1_0, z1_1, g_V_2 R, rd_s, bd_s, c_oL R (show 1 < 5 by decide), hs]
  split
  · rfl
  · split <;> rfl
theorem s_getm {G : GE} {z : Zs} {h : PH} (R : Rp G z h) {n m : Nat} (C : CN z n) (hm : m < z.2.1 1) : f_Jx4a65c_get_915e3 G (z.2.2.2 (bL 1)) (nI m) h = some (z.2.2.2 (bmo m), h) :=
  s_get R (k := 1) (by decide) (by rw [show z.2.1 (50 + 1) = z.2.1 1 from C.2.2.2.1]; exact hm)
def kTal (z : Zs) (n : Nat) (x : Int32) : Int32 :=
  if x = (0 : Int32) then z.1 0 0 0 else if x = (1 : Int32) then nI n else if x = (2 : Int32) then nI (z.2.1 1) else if x = (3 : Int32) then nI (z.2.1 0) else if x = (4 : Int32) then nI (z.2.1 2) else if x = (5 : Int32) then kOf z false 15 n else if x = (6 : Int32) then z.1 0 0 1 else if x = (7 : Int32) then kBound z false n else kStuck z false ((z.1 0 0 0).toNatClampNeg % z.2.1 0) n
theorem s_tally {G : GE} {z : Zs} {h : PH} (R : Rp G z h) {n H0 : Nat} (H : HB z false n) (hH : z.1 0 0 0 = nI H0) (h31 : H0 < 2 ^ 31) (x : Int32) : f_X6_tally G (z.2.2.2 bV) x h = some (kTal z n x, h) := by
  have C := H.1
  have h1 : f_Jx4a65c_size_8abf5 G (z.2.2.2 (bL 1)) h = some (nI (z.2.1 1), h) := by rw [s_size R (by decide), show z.2.1 (50 + 1) = z.2.1 1 from C.2.2.2.1]
  have h0 : f_Jx4a65c_size_8abf5 G (z.2.2.2 (bL 0)) h = some (nI (z.2.1 0), h) := by rw [s_size R (by decide), show z.2.1 (50 + 0) = z.2.1 0 from C.1]
  have h2 : f_Jx4a65c_size_8abf5 G (z.2.2.2 (bL 2)) h = some (nI (z.2.1 2), h) := by rw [s_size R (by decide), show z.2.1 (50 + 2) = z.2.1 2 from C.2.2.2.2.2.1]
  simp only [f_X6_tally, g_V_6 R, g_V_4 R, g_V_2 R, g_V_1 R, g_V_3 R, g_V_7 R, rd_s, bd_s, g_tn_0 R, c_otn R, c_oV R, c_oL R (lb_lt _), c_oL R (show 0 < 5 by decide), c_oL R (show 1 < 5 by decide), c_oL R (show 2 < 5 by decide), s_szv R (C.t false), h0, h1, h2, s_allVotes R (C.t false), s_boundVanes R (C.t false), hH, s_windAt R C h31, s_stuckVanes R (C.t false) (H.wi H0) (H.2.1 _ (H.wi H0)), ite_sm]
  unfold kTal
  rw [hH, nI_clamp h31]
