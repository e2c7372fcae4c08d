/-! ===== discord, coalition ===== -/
def dF (z : Zs) (w j : Nat) : Int32 := abI (kSteps (z.1 6 j 6) (z.1 1 w 0))
theorem dF_eq {n W H0 ne : Nat} {z : Zs} (S : SimH n W H0 ne z false z false) {j : Nat} (hj : j < n) : dF z (H0 % W) j = abI (kApart (z.1 12 j 6) (z.1 11 0 (H0 % W))) := by
  have hw := S.wx
  have e1 : z.1 1 (H0 % W) 0 = z.1 11 0 (H0 % W) := S.1.2.2.2.1 _ 0 hw (by decide)
  have e2 : z.1 6 j 6 = z.1 12 j 6 := S.1.1 j hj 6 (by decide) (by decide)
  have e0 : kSteps (z.1 6 j 6) (z.1 1 (H0 % W) 0) = kApart (z.1 6 j 6) (z.1 1 (H0 % W) 0) := steps_apart (S.2.1.2.2.2.2 j hj).2.2.1 (S.2.1.2.1 _ hw)
  unfold dF
  rw [e0, e1, e2]
theorem dF_B {n W H0 ne : Nat} {z : Zs} (S : SimH n W H0 ne z false z false) {j : Nat} (hj : j < n) : isB 9 (dF z (H0 % W) j) := by
  have hw := S.wx
  obtain ⟨k, hk, e⟩ := kSteps_in (S.2.1.2.2.2.2 j hj).2.2.1 (S.2.1.2.1 _ hw)
  unfold dF
  have e : kSteps (z.1 6 j 6) (z.1 1 (H0 % W) 0) = nI k - 7 := e
  rw [e]
  have key : ∀ k, k < 16 → abI (nI k - 7) = nI (if k < 7 then 7 - k else k - 7) := by decide +kernel
  rw [key k hk]
  exact ⟨_, by split <;> omega, rfl⟩
theorem sl_discord {G : GE} {z : Zs} {h : PH} (R : Rp G z h) {n H0 : Nat} (H : HB z false n) (hH : z.1 0 0 0 = nI H0) (h31 : H0 < 2 ^ 31) : ∀ d j fuel, j + d = n → d < fuel → f_X6_discord_b21 G fuel (z.2.2.2 bV) (nI n) (sumV (dF z (H0 % z.2.1 0)) j) (nI j) h = ngd (FP.ddiv (FP.i2d (sumV (dF z (H0 % z.2.1 0)) n)) (FP.i2d (nI n))) (some (FP.ddiv (FP.i2d (sumV (dF z (H0 % z.2.1 0)) n)) (FP.i2d (nI n)), h)) := by
  have h16 := (H.1.t false).2.2.2
  have hw := H.wi H0
  intro d
  induction d with
  | zero =>
    intro j fuel hk hf
    obtain ⟨fuel, rfl⟩ : ∃ q, fuel = q + 1 := ⟨fuel - 1, by omega⟩
    obtain rfl : j = n := by omega
    show f_X6_discord_b21_body G (f_X6_discord_b21 G fuel) (z.2.2.2 bV) (nI j) _ (nI j) h = _
    simp only [f_X6_discord_b21_body, if_pos (Int32.le_refl _)]
  | succ d ih =>
    intro j fuel hk hf
    obtain ⟨fuel, rfl⟩ : ∃ q, fuel = q + 1 := ⟨fuel - 1, by omega⟩
    have hj : j < n := by omega
    have e3 : gI 5 h (z.2.2.2 (bvn false j)) 3 = some (z.1 6 j 6) := g_vn_3 R ((H.1.t false).v hj)
    have i' := ih (j + 1) fuel (by omega) (by omega)
    show f_X6_discord_b21_body G (f_X6_discord_b21 G fuel) (z.2.2.2 bV) (nI n) _ (nI j) h = _
    simp only [f_X6_discord_b21_body, if_neg (nI_ge hj (show n < 2 ^ 31 by omega)), g_V_4 R, g_tn_0 R, rd_s, c_oL R (lb_lt _), s_getv R (H.1.t false) hj, bd_s, c_ovn R ((H.1.t false).v hj), e3, s_V6 R hH, c_oV R, s_windAt R H.1 h31, g_wn_0 R hw, f_X6_distance, f_X6_steps, nI_1]
    exact i'
theorem sl_mdiscord {G : GE} {z : Zs} {h : PH} (R : Rp G z h) {n W t : Nat} (M : MN z false n W t) (h0 : 0 < n) : ∀ d j fuel, j + d = n → d < fuel → f_X8_discord_b9 G fuel (z.2.2.2 bX) (sumV (fun j => abI (kApart (z.1 12 j 6) (z.1 11 0 (t % W)))) j) (nI j) h = ngd (FP.ddiv (FP.i2d (sumV (fun j => abI (kApart (z.1 12 j 6) (z.1 11 0 (t % W)))) n)) (FP.i2d (nI n))) (some (FP.ddiv (FP.i2d (sumV (fun j => abI (kApart (z.1 12 j 6) (z.1 11 0 (t % W)))) n)) (FP.i2d (nI n)), h)) := by
  have h16 := M.2.1
  have s5 : gI 8 h (z.2.2.2 (bst false)) 5 = some (nI n) := by rw [← M.1]; exact g_st_5 R
  have hz : ¬ nI n = 0 := fun e => by
    have := congrArg Int32.toInt e
    rw [nI_toInt (by omega), show (0 : Int32) = nI 0 from rfl, nI_toInt (by omega)] at this
    omega
  have rw0 : aI h (z.2.2.2 (bsa false 0)) (nI (t % W)) = some (z.1 11 0 (t % W)) := r_s0 R false M.w
  intro d
  induction d with
  | zero =>
    intro j fuel hk hf
    obtain ⟨fuel, rfl⟩ : ∃ q, fuel = q + 1 := ⟨fuel - 1, by omega⟩
    obtain rfl : j = n := by omega
    show f_X8_discord_b9_body G (f_X8_discord_b9 G fuel) (z.2.2.2 bX) _ (nI j) h = _
    simp only [f_X8_discord_b9_body, g_X_1 R, rd_s, s5, if_pos (Int32.le_refl _), if_neg hz, f_X8_discord_b85]
  | succ d ih =>
    intro j fuel hk hf
    obtain ⟨fuel, rfl⟩ : ∃ q, fuel = q + 1 := ⟨fuel - 1, by omega⟩
    have hj : j < n := by omega
    have i' := ih (j + 1) fuel (by omega) (by omega)
    have e6 : f_X7_of G (z.2.2.2 (bst false)) (nI j) (6 : Int32) h = some (z.1 12 j 6, h) := s_of_6 R (show j < 16 by omega)
    show f_X8_discord_b9_body G (f_X8_discord_b9 G fuel) (z.2.2.2 bX) _ (nI j) h = _
    simp only [f_X8_discord_b9_body, g_X_1 R, rd_s, s5, if_neg (nI_ge hj (show n < 2 ^ 31 by omega)), c_ost R, e6, bd_s, g_st_2 R, s_entry R M, rw0, s_apart, nI_1]
    exact i'
theorem div_ok : ∀ n, n < 17 → 0 < n → ∀ a, a < 129 → (FP.ddiv (FP.i2d (nI a)) (FP.i2d (nI n)) &&& 0x7fffffffffffffff ≤ 0x7ff0000000000000) ∧ Op.cmpValue (FP.dcmp (FP.ddiv (FP.i2d (nI a)) (FP.i2d (nI n))) (FP.ddiv (FP.i2d (nI a)) (FP.i2d (nI n)))) CmpOp.l = 0 := by decide +kernel
theorem ls_discord {G : GE} {x y o : Nat} : LS_discord G x y o (IV G x y o) := by
  rintro h ⟨z, R, ⟨rfl, rfl, rfl⟩, Gd⟩
  have Gd' := Gd
  obtain ⟨n, W, H0, ne, S, g1, g2, g3, g4, g5, g6, g7, g8, g9⟩ := Gd
  have H := S.2.1
  have C := H.1
  have M := S.2.2.2.1
  have h16 := (C.t false).2.2.2
  have h31 : H0 < 2 ^ 31 := by omega
  by_cases c : n = 0
  · subst c
    refine both_yy R Gd' (r := 0) ?_ (fun h3 e3 R3 => ?_)
    · simp only [f_X6_discord, g_V_4 R, g_tn_0 R, rd_s, c_oL R (lb_lt _), s_szv R (C.t false), bd_s, if_pos (show nI 0 = 0 from rfl)]
    · obtain ⟨i9, x1, x2, i8, -⟩ : NF z h3 := R3.nf
      have s5 : gI 8 h3 (z.2.2.2 (bst false)) 5 = some (nI 0) := by rw [← show z.1 10 0 5 = nI 0 from M.1]; have t := g_st_5 (b := false) R3; exact t
      refine ⟨0, h3, ?_, by decide +kernel, R3⟩
      have hl : f_X8_discord_b9 G LF (z.2.2.2 bX) (0 : Int32) (0 : Int32) h3 = some (0, h3) := by
        show f_X8_discord_b9_body G (f_X8_discord_b9 G 99999) (z.2.2.2 bX) (0 : Int32) (0 : Int32) h3 = _
        simp only [f_X8_discord_b9_body, x1, rd_s, s5, if_pos (show nI 0 ≤ 0 by decide), if_pos (show nI 0 = 0 from rfl), f_X8_discord_b85]
      simp only [f_X8_discord, e3, rd_s, hl]
  · have hz : ¬ nI n = 0 := fun e => by
      have := congrArg Int32.toInt e
      rw [nI_toInt (by omega), show (0 : Int32) = nI 0 from rfl, nI_toInt (by omega)] at this
      omega
    have t := sl_discord R H g1 h31 n 0 LF (by omega) (by unfold LF; omega)
    obtain ⟨a, ha, ea⟩ := sumV_B (K := 8) n (fun j hj => dF_B S hj)
    have hk := div_ok n (by omega) (by omega) a (by omega)
    rw [S.2.2.1, ea, ngd, if_pos hk.1] at t
    have t : f_X6_discord_b21 G LF (z.2.2.2 bV) (nI n) (0 : Int32) (0 : Int32) h = some (FP.ddiv (FP.i2d (nI a)) (FP.i2d (nI n)), h) := t
    refine both_yy R Gd' (r := FP.ddiv (FP.i2d (nI a)) (FP.i2d (nI n))) ?_ (fun h3 e3 R3 => ?_)
    · simp only [f_X6_discord, g_V_4 R, g_tn_0 R, rd_s, c_oL R (lb_lt _), s_szv R (C.t false), bd_s, if_neg hz, t]
    · have u := sl_mdiscord (z := uI z 0 1 0 0) R3 (n := n) (W := W) (t := H0) M (by omega) n 0 LF (by omega) (by unfold LF; omega)
      have u : f_X8_discord_b9 G LF (z.2.2.2 bX) (0 : Int32) (0 : Int32) h3 = ngd (FP.ddiv (FP.i2d (sumV (fun j => abI (kApart (z.1 12 j 6) (z.1 11 0 (H0 % W)))) n)) (FP.i2d (nI n))) (some (FP.ddiv (FP.i2d (sumV (fun j => abI (kApart (z.1 12 j 6) (z.1 11 0 (H0 % W)))) n)) (FP.i2d (nI n)), h3)) := u
      rw [← sumV_c n (fun j hj => dF_eq S hj), ea, ngd, if_pos hk.1] at u
      exact ⟨_, h3, by simp only [f_X8_discord, e3, rd_s, u], hk.2, R3⟩
def BC (x0 : Int32) : Int32 := ((((((((x0 - ((((x0).toUInt32 >>> (((1 : Int32)).toUInt32 &&& Int32.toUInt32 31)).toInt32) &&& (1431655765 : Int32))) &&& (858993459 : Int32)) + (((((x0 - ((((x0).toUInt32 >>> (((1 : Int32)).toUInt32 &&& Int32.toUInt32 31)).toInt32) &&& (1431655765 : Int32)))).toUInt32 >>> (((2 : Int32)).toUInt32 &&& Int32.toUInt32 31)).toInt32) &&& (858993459 : Int32))) + ((((((x0 - ((((x0).toUInt32 >>> (((1 : Int32)).toUInt32 &&& Int32.toUInt32 31)).toInt32) &&& (1431655765 : Int32))) &&& (858993459 : Int32)) + (((((x0 - ((((x0).toUInt32 >>> (((1 : Int32)).toUInt32 &&& Int32.toUInt32 31)).toInt32) &&& (1431655765 : Int32)))).toUInt32 >>> (((2 : Int32)).toUInt32 &&& Int32.toUInt32 31)).toInt32) &&& (858993459 : Int32)))).toUInt32 >>> (((4 : Int32)).toUInt32 &&& Int32.toUInt32 31)).toInt32)) &&& (252645135 : Int32)) + ((((((((x0 - ((((x0).toUInt32 >>> (((1 : Int32)).toUInt32 &&& Int32.toUInt32 31)).toInt32) &&& (1431655765 : Int32))) &&& (858993459 : Int32)) + (((((x0 - ((((x0).toUInt32 >>> (((1 : Int32)).toUInt32 &&& Int32.toUInt32 31)).toInt32) &&& (1431655765 : Int32)))).toUInt32 >>> (((2 : Int32)).toUInt32 &&& Int32.toUInt32 31)).toInt32) &&& (858993459 : Int32))) + ((((((x0 - ((((x0).toUInt32 >>> (((1 : Int32)).toUInt32 &&& Int32.toUInt32 31)).toInt32) &&& (1431655765 : Int32))) &&& (858993459 : Int32)) + (((((x0 - ((((x0).toUInt32 >>> (((1 : Int32)).toUInt32 &&& Int32.toUInt32 31)).toInt32) &&& (1431655765 : Int32)))).toUInt32 >>> (((2 : Int32)).toUInt32 &&& Int32.toUInt32 31)).toInt32) &&& (858993459 : Int32)))).toUInt32 >>> (((4 : Int32)).toUInt32 &&& Int32.toUInt32 31)).toInt32)) &&& (252645135 : Int32))).toUInt32 >>> (((8 : Int32)).toUInt32 &&& Int32.toUInt32 31)).toInt32)) + (((((((((x0 - ((((x0).toUInt32 >>> (((1 : Int32)).toUInt32 &&& Int32.toUInt32 31)).toInt32) &&& (1431655765 : Int32))) &&& (858993459 : Int32)) + (((((x0 - ((((x0).toUInt32 >>> (((1 : Int32)).toUInt32 &&& Int32.toUInt32 31)).toInt32) &&& (1431655765 : Int32)))).toUInt32 >>> (((2 : Int32)).toUInt32 &&& Int32.toUInt32 31)).toInt32) &&& (858993459 : Int32))) + ((((((x0 - ((((x0).toUInt32 >>> (((1 : Int32)).toUInt32 &&& Int32.toUInt32 31)).toInt32) &&& (1431655765 : Int32))) &&& (858993459 : Int32)) + (((((x0 - ((((x0).toUInt32 >>> (((1 : Int32)).toUInt32 &&& Int32.toUInt32 31)).toInt32) &&& (1431655765 : Int32)))).toUInt32 >>> (((2 : Int32)).toUInt32 &&& Int32.toUInt32 31)).toInt32) &&& (858993459 : Int32)))).toUInt32 >>> (((4 : Int32)).toUInt32 &&& Int32.toUInt32 31)).toInt32)) &&& (252645135 : Int32)) + ((((((((x0 - ((((x0).toUInt32 >>> (((1 : Int32)).toUInt32 &&& Int32.toUInt32 31)).toInt32) &&& (1431655765 : Int32))) &&& (858993459 : Int32)) + (((((x0 - ((((x0).toUInt32 >>> (((1 : Int32)).toUInt32 &&& Int32.toUInt32 31)).toInt32) &&& (1431655765 : Int32)))).toUInt32 >>> (((2 : Int32)).toUInt32 &&& Int32.toUInt32 31)).toInt32) &&& (858993459 : Int32))) + ((((((x0 - ((((x0).toUInt32 >>> (((1 : Int32)).toUInt32 &&& Int32.toUInt32 31)).toInt32) &&& (1431655765 : Int32))) &&& (858993459 : Int32)) + (((((x0 - ((((x0).toUInt32 >>> (((1 : Int32)).toUInt32 &&& Int32.toUInt32 31)).toInt32) &&& (1431655765 : Int32)))).toUInt32 >>> (((2 : Int32)).toUInt32 &&& Int32.toUInt32 31)).toInt32) &&& (858993459 : Int32)))).toUInt32 >>> (((4 : Int32)).toUInt32 &&& Int32.toUInt32 31)).toInt32)) &&& (252645135 : Int32))).toUInt32 >>> (((8 : Int32)).toUInt32 &&& Int32.toUInt32 31)).toInt32))).toUInt32 >>> (((16 : Int32)).toUInt32 &&& Int32.toUInt32 31)).toInt32)) &&& (63 : Int32))
theorem s_bc {G : GE} {h : PH} (x : Int32) : f_J6_bitCount_0f7a4 G x h = some (BC x, h) := rfl
theorem BC_t : ∀ s, s < 16 → ∀ b, b < 16 → ((BC (nI s) - BC (nI b) < 0) ∧ ¬ (BC (nI b) - BC (nI s) < 0) ∧ ¬ BC (nI b) - BC (nI s) = 0) ∨ (BC (nI s) - BC (nI b) = 0 ∧ ¬ (BC (nI s) - BC (nI b) < 0) ∧ BC (nI b) - BC (nI s) = 0 ∧ ¬ (BC (nI b) - BC (nI s) < 0)) ∨ (¬ (BC (nI s) - BC (nI b) < 0) ∧ ¬ (BC (nI s) - BC (nI b) = 0) ∧ BC (nI b) - BC (nI s) < 0) := by decide +kernel
/-- the best set of parties -/
def coS (all : Int32) (V : Nat → Int32) : Nat → Nat → Int32 → Int32 → Int32
  | 0, _, b, _ => b
  | d + 1, s, b, v => if all < V s * 2 then (if b = 0 then coS all V d (s + 1) (nI s) (V s) else if BC (nI s) - BC b < 0 then coS all V d (s + 1) (nI s) (V s) else if BC (nI s) - BC b = 0 then (if V s ≤ v then coS all V d (s + 1) b v else coS all V d (s + 1) (nI s) (V s)) else coS all V d (s + 1) b v) else coS all V d (s + 1) b v
theorem sl_co {G : GE} {z : Zs} {h : PH} (R : Rp G z h) {n : Nat} (C : CN z n) (all : Int32) : ∀ d s fuel b v, s + d = 16 → d < fuel → f_X6_coalition_b15 G fuel (z.2.2.2 bV) all b v (nI s) h = some (coS all (fun s => kOf z false (nI s) n) d s b v, h) := by
  intro d
  induction d with
  | zero =>
    intro s fuel b v hk hf
    obtain ⟨fuel, rfl⟩ : ∃ q, fuel = q + 1 := ⟨fuel - 1, by omega⟩
    obtain rfl : s = 16 := by omega
    show f_X6_coalition_b15_body G (f_X6_coalition_b15 G fuel) (z.2.2.2 bV) all b v (nI 16) h = _
    simp only [f_X6_coalition_b15_body, if_pos (show (16 : Int32) ≤ nI 16 from Int32.le_refl _), coS]
  | succ d ih =>
    intro s fuel b v hk hf
    obtain ⟨fuel, rfl⟩ : ∃ q, fuel = q + 1 := ⟨fuel - 1, by omega⟩
    show f_X6_coalition_b15_body G (f_X6_coalition_b15 G fuel) (z.2.2.2 bV) all b v (nI s) h = _
    have i' := fun b v => ih (s + 1) fuel b v (by omega) (by omega)
    simp only [f_X6_coalition_b15_body, if_neg (show ¬ (16 : Int32) ≤ nI s from nI_ge (show s < 16 by omega) (by decide)), g_V_4 R, rd_s, c_otn R, s_votesOf R (C.t false), bd_s, s_bc, f_X6_coalition_b76, f_X6_coalition_b82, nI_1, i', coS]
    repeat' split
    all_goals first | rfl | contradiction
def pT (z : Zs) (n s p : Nat) : Int32 := if ((nI s >>> (nI p &&& 31)) &&& (1 : Int32)) = (1 : Int32) then mPT z (nI p) 1 n else 0
theorem party_in {d : Int32} (hd : isB 16 d) : ∃ p, p < 4 ∧ kParty d = nI p := by
  obtain ⟨x, hx, rfl⟩ := hd
  have key : ∀ x, x < 16 → ∃ p, p < 4 ∧ kParty (nI x) = nI p := by decide +kernel
  exact key x hx
theorem pT_sum {n W H0 ne : Nat} {z : Zs} (S : SimH n W H0 ne z false z false) (s : Nat) : sumV (pT z n s) 4 = kOf z false (nI s) n := by
  have e : ∀ p, pT z n s p = sumV (fun j => if kParty (z.1 12 j 6) = nI p then (if ((nI s >>> (nI p &&& 31)) &&& (1 : Int32)) = (1 : Int32) then z.1 12 j 4 else 0) else 0) n := fun p => by
    unfold pT mPT
    by_cases c : ((nI s >>> (nI p &&& 31)) &&& (1 : Int32)) = (1 : Int32)
    · rw [if_pos c]
      refine sumV_c n (fun j hj => ?_)
      rw [if_pos c, if_neg ne10]
    · rw [if_neg c]
      have h0 : ∀ k, sumV (fun _ => (0 : Int32)) k = 0 := fun k => by
        induction k with
        | zero => rfl
        | succ k ih => rw [sumV, ih]; rfl
      refine (h0 n).symm.trans (sumV_c n (fun j hj => ?_))
      rw [if_neg c]
      split <;> rfl
  show (((((0 : Int32) + pT z n s 0) + pT z n s 1) + pT z n s 2) + pT z n s 3) = _
  rw [e, e, e, e, Int32.zero_add, sumV_add, sumV_add, sumV_add]
  unfold kOf
  refine sumV_c n (fun j hj => ?_)
  have e6 : z.1 (gv false) j 6 = z.1 12 j 6 := S.1.1 j hj 6 (by decide) (by decide)
  have e4 : z.1 (gv false) j 4 = z.1 12 j 4 := S.1.1 j hj 4 (by decide) (by decide)
  obtain ⟨p, hp, ep⟩ := party_in (S.2.1.2.2.2.2 j hj).2.2.1
  rw [e6] at ep
  rw [e6, e4, ep]
  match p, hp with
  | 0, _ => simp [show ¬ nI 0 = nI 1 by decide, show ¬ nI 0 = nI 2 by decide, show ¬ nI 0 = nI 3 by decide]
  | 1, _ => simp [show ¬ nI 1 = nI 0 by decide, show ¬ nI 1 = nI 2 by decide, show ¬ nI 1 = nI 3 by decide]
  | 2, _ => simp [show ¬ nI 2 = nI 0 by decide, show ¬ nI 2 = nI 1 by decide, show ¬ nI 2 = nI 3 by decide]
  | 3, _ => simp [show ¬ nI 3 = nI 0 by decide, show ¬ nI 3 = nI 1 by decide, show ¬ nI 3 = nI 2 by decide]
