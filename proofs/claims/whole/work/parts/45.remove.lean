/-! ===== a list is cleared; an entry is removed ===== -/
theorem ct_mc {G : GE} {z : Zs} {k : Nat} (x : Int32) (l : Lb) (hl : ¬ l = bL k) : ct G (uI z 8 k 0 x) l = ct G z l :=
  ct_dep (z := z) (z' := uI z 8 k 0 x) rfl _ (fun g a hg => uR_n z _ (fun e => by
    rw [e.1, e.2] at hg
    exact hl (d_L k hg)))
theorem uL_self (z : Zs) (k n : Nat) {l : Lb} : (uL z k n (z.2.1 (60 + k)) (z.2.2.2 (bA k))).2.2.2 l = z.2.2.2 l := by
  by_cases e : l = bA k
  · rw [e, uL_aA]
  · rw [uL_ad e]
/-- what clear leaves -/
noncomputable def clZ (z : Zs) (k : Nat) : Zs := uL (uI z 8 k 0 (z.1 8 k 0 + 1)) k 0 (z.2.1 (60 + k)) (z.2.2.2 (bA k))
theorem sl_clear {G : GE} {N n : Nat} {q : Nat} {c0 : Lb → Option PC} {ad : Lb → Nat} {l : Lb} {f : Nat → Option Nat} (hnN : n ≤ N) (hN : N < 2 ^ 31) (hq : ad l = q) :
    ∀ d i fuel h, i + d = n → d < fuel → Rq G (cU c0 l (some (.inl (1, N, .inr (.inr (.inr (.inr (fun j => if j < i then none else f j)))))))) ad h →
      ∃ h', f_Jx4a65c_clear_da8c8_b27 G fuel q (nI n) (nI i) h = some ((), h') ∧ Rq G (cU c0 l (some (.inl (1, N, .inr (.inr (.inr (.inr (fun j => if j < n then none else f j)))))))) ad h' := by
  intro d
  induction d with
  | zero =>
    intro i fuel h hk hf R
    obtain ⟨fuel, rfl⟩ : ∃ q, fuel = q + 1 := ⟨fuel - 1, by omega⟩
    obtain rfl : i = n := by omega
    refine ⟨h, ?_, R⟩
    show f_Jx4a65c_clear_da8c8_b27_body G (f_Jx4a65c_clear_da8c8_b27 G fuel) q (nI i) (nI i) h = _
    simp only [f_Jx4a65c_clear_da8c8_b27_body, if_pos (Int32.le_refl _)]
  | succ d ih =>
    intro i fuel h hk hf R
    obtain ⟨fuel, rfl⟩ : ∃ q, fuel = q + 1 := ⟨fuel - 1, by omega⟩
    have hin : i < n := by omega
    have hA := R.get (l := l) (cU_s _ _ _)
    rw [hq] at hA
    have R1 := R.wr' l (.inl (1, N, .inr (.inr (.inr (.inr (fun j => if j < i + 1 then none else f j)))))) (cU_s _ _ _)
    rw [hq] at R1
    have R1 := Rq.ex (c1 := cU c0 l (some (.inl (1, N, .inr (.inr (.inr (.inr (fun j => if j < i + 1 then none else f j)))))))) R1 (fun l' => by
      by_cases e : l' = l
      · rw [e, cU_s, cU_s]
      · rw [cU_n _ _ e, cU_n _ _ e, cU_n _ _ e])
    obtain ⟨h', e', R'⟩ := ih (i + 1) fuel _ (by omega) (by omega) R1
    refine ⟨h', ?_, R'⟩
    have hw : va_up (fun j => if j < i then none else f j) i none = fun j => if j < i + 1 then none else f j := by
      funext j
      unfold va_up
      by_cases e : j = i
      · rw [if_pos e, if_pos (by omega)]
      · rw [if_neg e]
        show (if j < i then none else f j) = if j < i + 1 then none else f j
        by_cases e2 : j < i
        · rw [if_pos e2, if_pos (by omega)]
        · rw [if_neg e2, if_neg (by omega)]
    show f_Jx4a65c_clear_da8c8_b27_body G (f_Jx4a65c_clear_da8c8_b27 G fuel) q (nI n) (nI i) h = _
    rw [f_Jx4a65c_clear_da8c8_b27_body, if_neg (nI_ge hin (by omega)), aRs_of none hA (by omega) hN, rd_s, nI_1, hw]
    exact e'
theorem s_clear {G : GE} {z : Zs} {h : PH} (R : Rp G z h) {k : Nat} (hk : k < 5) : ∃ h', f_Jx4a65c_clear_da8c8 G (z.2.2.2 (bL k)) h = some ((), h') ∧ Rp G (clZ z k) h' := by
  obtain ⟨h1, e1, R1⟩ := w_L_0 R hk (z.1 8 k 0 + 1)
  have hW := R.2
  obtain ⟨w1, w2⟩ := R.2 k hk
  suffices hh : ∀ y, y = uI z 8 k 0 (z.1 8 k 0 + 1) → Rp G y h1 → ∃ h', (rd (gR 0 h1 (y.2.2.2 (bL k)) 1) fun v2 => rd (gI 0 h1 (y.2.2.2 (bL k)) 2) fun v3 => rd (sF 0 h1 (y.2.2.2 (bL k)) 2 (.int (0 : Int32))) fun h => f_Jx4a65c_clear_da8c8_b27 G LF v2 v3 (0 : Int32) h) = some ((), h') ∧ Rp G (uL y k 0 (y.2.1 (60 + k)) (y.2.2.2 (bA k))) h' by
    obtain ⟨h', q1, q2⟩ := hh _ rfl R1
    refine ⟨h', ?_, q2⟩
    rw [f_Jx4a65c_clear_da8c8, g_L_0 R hk, rd_s, e1, rd_s]
    exact q1
  intro y hy R1
  have w1 : y.2.1 (50 + k) ≤ y.2.1 (60 + k) := by rw [hy]; exact w1
  have w2 : y.2.1 (60 + k) ≤ 36 := by rw [hy]; exact w2
  have hWy : WL (uL y k 0 (y.2.1 (60 + k)) (y.2.2.2 (bA k))) := by
    intro q hq
    by_cases e : q = k
    · subst e
      rw [uL_l, uL_c]
      omega
    · rw [uL_n (by omega) (by omega), uL_n (by omega) (by omega)]
      exact R1.2 q hq
  have R2 := Rq.wr' R1.1 (bL k) (.inr (0, [.int (y.1 8 k 0), .ref (if y.2.1 (60 + k) = 0 then gDE G else y.2.2.2 (bA k)), .int (nI 0)])) (e_L hk)
  have hs := sF_of 2 (.int 0) (R1.at (e_L hk)) (by simp)
  simp only [List.set] at hs
  have had : (uL y k 0 (y.2.1 (60 + k)) (y.2.2.2 (bA k))).2.2.2 = y.2.2.2 := funext fun l => uL_self y k 0
  by_cases c0 : y.2.1 (60 + k) = 0
  · refine ⟨(h1.1, va_up h1.2 (y.2.2.2 (bL k)) (some (.inr (0, [.int (y.1 8 k 0), .ref (if y.2.1 (60 + k) = 0 then gDE G else y.2.2.2 (bA k)), .int (nI 0)])))), ?_, ?_, hWy⟩
    · rw [g_L_1 R1 hk, rd_s, g_L_2 R1 hk, rd_s, hs, rd_s, show y.2.1 (50 + k) = 0 by omega]
      generalize (if y.2.1 (60 + k) = 0 then gDE G else y.2.2.2 (bA k)) = q0
      show f_Jx4a65c_clear_da8c8_b27_body G (f_Jx4a65c_clear_da8c8_b27 G 99999) q0 (nI 0) (0 : Int32) _ = _
      rw [f_Jx4a65c_clear_da8c8_b27_body, if_pos (by decide)]
      rfl
    · rw [had]
      refine R2.ex (fun l => ?_)
      by_cases e1 : l = bL k
      · rw [e1, cU_s, e_L (z := uL y k 0 (y.2.1 (60 + k)) (y.2.2.2 (bA k))) hk, uL_l, uL_c, uL_aA]
        rfl
      · rw [cU_n _ _ e1]
        by_cases e2 : l = bA k
        · rw [e2]
          simp [ct, uL_c, c0]
        · exact ct_uL hk l e1 e2
  · have R2 := Rq.ex (c1 := cU (cU (ct G y) (bL k) (some (.inr (0, [.int (y.1 8 k 0), .ref (if y.2.1 (60 + k) = 0 then gDE G else y.2.2.2 (bA k)), .int (nI 0)])))) (bA k) (some (.inl (1, y.2.1 (60 + k), .inr (.inr (.inr (.inr (fun j => if j < 0 then none else (if j < y.2.1 (50 + k) then some (y.2.2.2 (el k j)) else none))))))))) R2 (fun l => by
      by_cases e2 : l = bA k
      · rw [e2, cU_s, cU_n _ _ (ne_AL k), e_A hk c0]
        rfl
      · rw [cU_n _ _ e2])
    obtain ⟨h', e', R'⟩ := sl_clear (n := y.2.1 (50 + k)) w1 (by omega) rfl (y.2.1 (50 + k)) 0 LF _ (by omega) (by unfold LF; omega) R2
    refine ⟨h', ?_, ?_, hWy⟩
    · rw [g_L_1 R1 hk, rd_s, g_L_2 R1 hk, rd_s, hs, rd_s, if_neg c0]
      rw [if_neg c0] at e'
      exact e'
    · rw [had]
      refine R'.ex (fun l => ?_)
      by_cases e2 : l = bA k
      · rw [e2, cU_s, e_A (z := uL y k 0 (y.2.1 (60 + k)) (y.2.2.2 (bA k))) hk (by rw [uL_c]; exact c0), uL_l, uL_c]
        have : (fun i => if i < 0 then some ((uL y k 0 (y.2.1 (60 + k)) (y.2.2.2 (bA k))).2.2.2 (el k i)) else none) = (fun j => if j < y.2.1 (50 + k) then none else (if j < y.2.1 (50 + k) then some (y.2.2.2 (el k j)) else none)) := by
          funext j
          rw [if_neg (Nat.not_lt_zero j)]
          by_cases e : j < y.2.1 (50 + k)
          · rw [if_pos e]
          · rw [if_neg e, if_neg e]
        rw [this]
      · rw [cU_n _ _ e2]
        by_cases e1 : l = bL k
        · rw [e1, cU_s, e_L (z := uL y k 0 (y.2.1 (60 + k)) (y.2.2.2 (bA k))) hk, uL_l, uL_c, uL_aA]
          rfl
        · rw [cU_n _ _ e1]
          exact ct_uL hk l e1 e2
/-- a place is taken out -/
def sh {α : Type} (j : Nat) (f : Nat → α) : Nat → α := fun i => if i < j then f i else f (i + 1)
def shL (j : Nat) : Lb → Lb
  | .inr (.inr (.inr (.inr (.inr (.inr (.inr (.inr (.inr (.inl i))))))))) => bae (if i < j then i else i + 1)
  | l => l
/-- what remove leaves of the agenda -/
def rmZ (z : Zs) (j : Nat) : Zs := (fun g => if g = 3 then sh j (z.1 3) else if g = 8 then u1 (z.1 8) 2 (u1 (z.1 8 2) 0 (z.1 8 2 0 + 1)) else z.1 g, fun g => if g = 52 then z.2.1 52 - 1 else if g = 2 then z.2.1 2 - 1 else z.2.1 g, z.2.2.1, fun l => z.2.2.2 (shL j l))
theorem rmZ_c (z : Zs) (j : Nat) {g : Nat} (h1 : ¬ g = 52) (h2 : ¬ g = 2) : (rmZ z j).2.1 g = z.2.1 g := by
  show (if g = 52 then z.2.1 52 - 1 else if g = 2 then z.2.1 2 - 1 else z.2.1 g) = _
  rw [if_neg h1, if_neg h2]
theorem rmZ_g (z : Zs) (j : Nat) {g : Nat} (h1 : ¬ g = 3) (h2 : ¬ g = 8) : (rmZ z j).1 g = z.1 g := by
  show (if g = 3 then sh j (z.1 3) else if g = 8 then u1 (z.1 8) 2 (u1 (z.1 8 2) 0 (z.1 8 2 0 + 1)) else z.1 g) = _
  rw [if_neg h1, if_neg h2]
theorem shL_el (j : Nat) {q : Nat} (hq : ¬ q = 2) (i : Nat) : shL j (el q i) = el q i := by
  match q, hq with
  | 0, _ => rfl
  | 1, _ => rfl
  | 3, _ => rfl
  | q + 4, _ => rfl
set_option maxHeartbeats 4000000 in
theorem ct_rm {G : GE} {z : Zs} (j : Nat) (l : Lb) (h1 : ¬ l = bL 2) (h2 : ¬ l = bA 2) (h3 : ∀ i, ¬ l = bae i) : ct G (rmZ z j) l = ct G z l := by
  rcases l with u|u|u|b|b|q|q|i|i|i|i|i|⟨b, i⟩|⟨b, q⟩
  · rfl
  · rfl
  · rfl
  · rfl
  · simp only [ct, rmZ_g z j (show ¬ gm b 0 = 3 by have := gm_ge b 0; omega) (show ¬ gm b 0 = 8 by have := gm_ge b 0; omega)]
    rfl
  · have hq : ¬ q = 2 := fun e => h1 (by rw [e])
    have e8 : (rmZ z j).1 8 q = z.1 8 q := u1_n _ _ hq
    by_cases h5 : q < 5
    · have g1 : (rmZ z j).2.1 (50 + q) = z.2.1 (50 + q) := rmZ_c z j (by omega) (by omega)
      have g2 : (rmZ z j).2.1 (60 + q) = z.2.1 (60 + q) := rmZ_c z j (by omega) (by omega)
      simp only [ct, g1, g2, e8]
      rfl
    · simp only [ct, if_neg h5]
  · have hq : ¬ q = 2 := fun e => h2 (by rw [e])
    by_cases h5 : q < 5
    · have g1 : (rmZ z j).2.1 (50 + q) = z.2.1 (50 + q) := rmZ_c z j (by omega) (by omega)
      have g2 : (rmZ z j).2.1 (60 + q) = z.2.1 (60 + q) := rmZ_c z j (by omega) (by omega)
      have g3 : ∀ i, (rmZ z j).2.2.2 (el q i) = z.2.2.2 (el q i) := fun i => congrArg z.2.2.2 (shL_el j hq i)
      simp only [ct, g1, g2, g3]
    · simp only [ct, h5, false_and, if_false]
  · rfl
  · rfl
  · exact absurd rfl (h3 i)
  · rfl
  · rfl
  · cases b <;> rfl
  · have e : ∀ q, (rmZ z j).1 (gm b q) = z.1 (gm b q) := fun q => rmZ_g z j (by have := gm_ge b q; omega) (by have := gm_ge b q; omega)
    match q with
    | 0 => simp only [ct, saC, e]
    | 1 => simp only [ct, saC, e]
    | 2 => simp only [ct, saC, e]
    | 3 => simp only [ct, saC, e]
    | 4 => simp only [ct, saC, e]
    | 5 => simp only [ct, saC, e]
    | q + 6 => rfl
theorem shL_o (j : Nat) (l : Lb) (h3 : ∀ i, ¬ l = bae i) : shL j l = l := by
  rcases l with u|u|u|b|b|q|q|i|i|i|i|i|⟨b, i⟩|⟨b, q⟩ <;> first | rfl | exact absurd rfl (h3 i)
set_option maxHeartbeats 4000000 in
theorem s_remove {G : GE} {z : Zs} {h : PH} (R : Rp G z h) {j : Nat} (hj : j < z.2.1 52) (hA : z.2.1 52 = z.2.1 2) : ∃ h' v, f_Jx4a65c_remove_915e3 G (z.2.2.2 (bL 2)) (nI j) h = some (v, h') ∧ Rp G (rmZ z j) h' := by
  obtain ⟨w1, w2⟩ := R.2 2 (by decide)
  have w1 : z.2.1 52 ≤ z.2.1 62 := w1
  have w2 : z.2.1 62 ≤ 36 := w2
  obtain ⟨n, hn⟩ : ∃ n, z.2.1 52 = n + 1 := ⟨z.2.1 52 - 1, by omega⟩
  have hc : ¬ z.2.1 (60 + 2) = 0 := by show ¬ z.2.1 62 = 0; omega
  obtain ⟨h1, e1, R1⟩ := w_L_0 R (k := 2) (by decide) (z.1 8 2 0 + 1)
  have hA1 : h1.2 (z.2.2.2 (bA 2)) = some (.inl (1, z.2.1 62, .inr (.inr (.inr (.inr (fun i => if i < z.2.1 52 then some (z.2.2.2 (bae i)) else none)))))) := R1.at (e_A (z := uI z 8 2 0 (z.1 8 2 0 + 1)) (by decide) hc)
  have gA : (fun i => if i < z.2.1 52 then some (z.2.2.2 (bae i)) else none) j = some (z.2.2.2 (bae j)) := if_pos hj
  have g2 : gI 0 h1 (z.2.2.2 (bL 2)) 2 = some (nI (n + 1)) := by
    have := g_L_2 R1 (k := 2) (by decide)
    rw [← hn]
    exact this
  have hsub : nI (n + 1) - 1 = nI n := nI_pred n
  -- the array shifted
  have hsh : ∃ h2, (if nI n ≤ nI j then some h1 else cpR h1 (z.2.2.2 (bA 2)) (nI j + 1) (z.2.2.2 (bA 2)) (nI j) (nI n - nI j)) = some h2 ∧ ∃ f, (∀ i, i < n → f i = some (z.2.2.2 (bae (if i < j then i else i + 1)))) ∧ (∀ i, n < i → f i = none) ∧ Rq G (cU (ct G (uI z 8 2 0 (z.1 8 2 0 + 1))) (bA 2) (some (.inl (1, z.2.1 62, .inr (.inr (.inr (.inr f))))))) z.2.2.2 h2 := by
    by_cases c : n ≤ j
    · refine ⟨h1, if_pos (nI_le c (by omega)), (fun i => if i < z.2.1 52 then some (z.2.2.2 (bae i)) else none), fun i hi => ?_, fun i hi => if_neg (show ¬ i < z.2.1 52 by omega), R1.1.ex (fun l => ?_)⟩
      · show (if i < z.2.1 52 then some (z.2.2.2 (bae i)) else none) = _
        rw [if_pos (by omega), if_pos (by omega)]
      · by_cases e2 : l = bA 2
        · rw [e2, cU_s, e_A (z := uI z 8 2 0 (z.1 8 2 0 + 1)) (by decide) hc]
          rfl
        · rw [cU_n _ _ e2]
    · have hnj : nI n - nI j = nI (n - j) := by
        have : nI n = nI (n - j) + nI j := by rw [nI_add, Nat.sub_add_cancel (by omega)]
        rw [this, Int32.add_sub_cancel]
      have R2 := Rq.wr' R1.1 (bA 2) (.inl (1, z.2.1 62, .inr (.inr (.inr (.inr (va_cpy (fun i => if i < z.2.1 52 then some (z.2.2.2 (bae i)) else none) (fun i => if i < z.2.1 52 then some (z.2.2.2 (bae i)) else none) (j + 1) j (n - j))))))) (e_A (z := uI z 8 2 0 (z.1 8 2 0 + 1)) (by decide) hc)
      refine ⟨_, ?_, _, fun i hi => ?_, fun i hi => ?_, R2⟩
      · rw [if_neg (nI_ge (Nat.lt_of_not_le c) (by omega)), hnj, nI_1]
        have hok : okR h1 (fun i => if i < z.2.1 52 then some (z.2.2.2 (bae i)) else none) (j + 1) (n - j) := by
          intro i hi q hq
          have hq : (if j + 1 + i < z.2.1 52 then some (z.2.2.2 (bae (j + 1 + i))) else none) = some q := hq
          rw [if_pos (by omega)] at hq
          cases hq
          exact ⟨1, _, R1.at (e_ae (z := uI z 8 2 0 (z.1 8 2 0 + 1)) (i := j + 1 + i) (by show j + 1 + i < z.2.1 2; omega)), by decide⟩
        have k1 : (nI (j + 1)).toNatClampNeg = j + 1 := nI_clamp (by omega)
        have k2 : (nI j).toNatClampNeg = j := nI_clamp (by omega)
        have k3 : (nI (n - j)).toNatClampNeg = n - j := nI_clamp (by omega)
        unfold cpR
        simp only [hA1, k1, k2, k3]
        rw [if_pos ⟨rfl, rfl, nI_pos (by omega), nI_pos (by omega), nI_pos (by omega), by rw [k1, k3]; omega, by rw [k2, k3]; omega, by rw [k1, k3]; exact hok⟩]
        first | done | rfl | simp only [k1, k2, k3]
      · by_cases c2 : i < j
        · rw [pk_cpy_out (Or.inl c2), if_pos c2]
          exact if_pos (show i < z.2.1 52 by omega)
        · rw [pk_cpy_in (by omega) (by omega), if_neg c2, show j + 1 + (i - j) = i + 1 by omega]
          exact if_pos (show i + 1 < z.2.1 52 by omega)
      · rw [pk_cpy_out (Or.inr (by omega))]
        exact if_neg (show ¬ i < z.2.1 52 by omega)
  obtain ⟨h2, e2, f, f1, f2, R2⟩ := hsh
  have eL' : ct G (uI z 8 2 0 (z.1 8 2 0 + 1)) (bL 2) = some (.inr (0, [.int (z.1 8 2 0 + 1), .ref (z.2.2.2 (bA 2)), .int (nI (n + 1))])) := by
    rw [e_L (z := uI z 8 2 0 (z.1 8 2 0 + 1)) (by decide), if_neg (show ¬ (uI z 8 2 0 (z.1 8 2 0 + 1)).2.1 (60 + 2) = 0 from hc), uI_s, show (uI z 8 2 0 (z.1 8 2 0 + 1)).2.1 (50 + 2) = n + 1 from hn]
    rfl
  have hL2 := R2.get (l := bL 2) (by rw [cU_n _ _ (ne_LA 2)]; exact eL')
  have R3 := R2.wr' (bL 2) (.inr (0, [.int (z.1 8 2 0 + 1), .ref (z.2.2.2 (bA 2)), .int (nI n)])) (by rw [cU_n _ _ (ne_LA 2)]; exact eL')
  have hs : sF 0 h2 (z.2.2.2 (bL 2)) 2 (.int (nI n)) = some (h2.1, va_up h2.2 (z.2.2.2 (bL 2)) (some (.inr (0, [.int (z.1 8 2 0 + 1), .ref (z.2.2.2 (bA 2)), .int (nI n)])))) := sF_of 2 (.int (nI n)) hL2 (by simp)
  have hA3 := R3.get (l := bA 2) (by rw [cU_n _ _ (ne_AL 2), cU_s])
  have R4 := R3.wr' (bA 2) (.inl (1, z.2.1 62, .inr (.inr (.inr (.inr (va_up f n none)))))) (by rw [cU_n _ _ (ne_AL 2), cU_s])
  have ha := aRs_of none hA3 (show n < z.2.1 62 by omega) (by omega)
  have R5 := Rq.re (c1 := ct G (rmZ z j)) (ad' := (rmZ z j).2.2.2) R4 (shL j) (by
      intro a b d d' ha hb e
      rcases a with u|u|u|c|c|q|q|i|i|i|i|i|⟨c, i⟩|⟨c, q⟩ <;> rcases b with u'|u'|u'|c'|c'|q'|q'|i'|i'|i'|i'|i'|⟨c', i'⟩|⟨c', q'⟩ <;> first
        | exact e
        | (exfalso; cases e; done)
        | skip
      have e : (if i < j then i else i + 1) = (if i' < j then i' else i' + 1) := by injection e with e; repeat (injection e with e)
      have : i = i' := by split at e <;> split at e <;> omega
      rw [this]) (by
      intro l d hl
      refine ⟨?_, rfl⟩
      by_cases h3 : ∃ i, l = bae i
      · obtain ⟨i, rfl⟩ := h3
        have hs3 : shL j (bae i) = bae (if i < j then i else i + 1) := rfl
        rw [hs3, cU_n _ _ (fun e => by cases e), cU_n _ _ (fun e => by cases e), cU_n _ _ (fun e => by cases e), ct_mc _ _ (fun e => by cases e), ← hl]
        have hg3 : (rmZ z j).1 3 i = z.1 3 (if i < j then i else i + 1) := by
          show sh j (z.1 3) i = _
          unfold sh
          split <;> rfl
        have hc2 : (rmZ z j).2.1 2 = z.2.1 2 - 1 := rfl
        simp only [ct, hg3, hc2]
        by_cases q : i < z.2.1 2 - 1
        · rw [if_pos q, if_pos (by split <;> omega)]
          rfl
        · have : (ct G (rmZ z j) (bae i)) = none := by simp only [ct, hc2, if_neg q]
          rw [this] at hl
          cases hl
      · have h3 : ∀ i, ¬ l = bae i := fun i e => h3 ⟨i, e⟩
        rw [shL_o j l h3]
        by_cases h2 : l = bA 2
        · subst h2
          rw [cU_s, ← hl, e_A (z := rmZ z j) (by decide) (by rw [rmZ_c z j (by decide) (by decide)]; exact hc)]
          have q1 : (rmZ z j).2.1 (50 + 2) = n := by show z.2.1 52 - 1 = n; omega
          have q2 : (rmZ z j).2.1 (60 + 2) = z.2.1 62 := rfl
          rw [q1, q2]
          have : (fun i => if i < n then some ((rmZ z j).2.2.2 (el 2 i)) else none) = va_up f n none := by
            funext i
            unfold va_up
            by_cases e : i = n
            · rw [if_pos e, if_neg (by omega)]
            · rw [if_neg e]
              by_cases e2 : i < n
              · rw [if_pos e2, f1 i e2]
                rfl
              · rw [if_neg e2, f2 i (by omega)]
          rw [this]
        · rw [cU_n _ _ h2]
          by_cases h1 : l = bL 2
          · subst h1
            rw [cU_s, ← hl, e_L (z := rmZ z j) (by decide), if_neg (by rw [rmZ_c z j (by decide) (by decide)]; exact hc)]
            have q1 : (rmZ z j).2.1 (50 + 2) = n := by show z.2.1 52 - 1 = n; omega
            rw [q1]
            rfl
          · rw [cU_n _ _ h1, cU_n _ _ h2, ct_mc _ _ h1, ← hl, ct_rm j l h1 h2 h3])
  refine ⟨_, z.2.2.2 (bae j), ?_, R5, ?_⟩
  · rw [f_Jx4a65c_remove_915e3, g_L_2 R (by decide), rd_s, show z.2.1 (50 + 2) = n + 1 from hn, f_J15_checkIndex_7cf53, f_J3_checkIndex_8e157, if_neg (nI_pos (by omega)), if_pos (nI_lt (by omega) (by omega)), bd_s, bd_s, g_L_1 R (by decide), rd_s, if_neg hc, aR_of (R.at (e_A (by decide) hc)) (show j < z.2.1 (60 + 2) from by show j < z.2.1 62; omega) (show z.2.1 62 < 2 ^ 31 by omega) gA, rd_s, c_oL R (by decide), rd_s, f_Jx4a65c_fastRemove_b59b0, g_L_0 R (by decide), rd_s, e1, rd_s, g2, rd_s, hsub]
    by_cases c : nI n ≤ nI j
    · rw [if_pos c] at e2 ⊢
      cases e2
      rw [f_Jx4a65c_fastRemove_b59b0_b34, hs, rd_s, ha, rd_s, bd_s]
    · rw [if_neg c] at e2 ⊢
      rw [e2, rd_s, f_Jx4a65c_fastRemove_b59b0_b34, hs, rd_s, ha, rd_s, bd_s]
  · intro q hq
    have hWq := R.2 q hq
    by_cases e : q = 2
    · subst e
      show z.2.1 52 - 1 ≤ z.2.1 62 ∧ z.2.1 62 ≤ 36
      omega
    · rw [rmZ_c z j (by omega) (by omega), rmZ_c z j (by omega) (by omega)]
      exact hWq
