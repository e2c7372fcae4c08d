/-! ===== the model's hour; a state becomes another ===== -/
def miF (z : Zs) (b : Bool) (j : Nat) : Nat → Int32 := rRain (z.1 (gm b 2) j)
theorem s_rain1 {G : GE} {z : Zs} {h : PH} (R : Rp G z h) {b : Bool} {n W t v : Nat} (M : MN z b n W t) (hv : v < n) (c : ¬ z.1 (gm b 1) 2 (t % W) = 0) (x : Int32) (k101 : Nat → Int32 → Int32 → PH → Option (Int32 × PH)) :
    ∃ h', f_X7_end_b101_body G k101 (z.2.2.2 (bst b)) x (nI v) h = k101 (z.2.2.2 (bst b)) x (nI (v + 1)) h' ∧ Rp G (uR z (gm b 2) v (miF z b v)) h' := by
  have h16 := M.2.1
  have hv16 : v < 16 := by omega
  obtain ⟨h1, e1, R1⟩ := s_set_9 R (b := b) hv16 (z.1 (gm b 2) v 9 + 1)
  rw [uI_eq z] at R1
  have o9 : f_X7_of G (z.2.2.2 (bst b)) (nI v) (9 : Int32) h1 = some (z.1 (gm b 2) v 9 + 1, h1) := by
    have := s_ofr_9 R1 hv16
    exact this
  have o5 : f_X7_of G (z.2.2.2 (bst b)) (nI v) (5 : Int32) h1 = some (z.1 (gm b 2) v 5, h1) := by
    have := s_ofr_5 R1 hv16
    exact this
  by_cases c2 : (z.1 (gm b 2) v 9 + 1) - (z.1 (gm b 2) v 9 + 1) / (2 : Int32) * (2 : Int32) = (1 : Int32)
  · obtain ⟨h2, e2, R2⟩ := s_setr_5 R1 hv16 (mnI (9 : Int32) (z.1 (gm b 2) v 5 + (1 : Int32)))
    refine ⟨h2, ?_, by rw [miF, rRain, if_pos c2]; exact R2⟩
    simp only [f_X7_end_b101_body, g_st_5 R, rd_s, M.1, if_neg (nI_ge hv (show n < 2 ^ 31 by omega)), g_st_4 R, c_ost R, s_entry R M, bd_s, r_s2 R b M.w, if_neg c, s_of_9 R hv16, e1, ostr R1, o9, if_pos c2, o5, e2, f_X7_end_b169, nI_1]
  · refine ⟨h1, ?_, by rw [miF, rRain, if_neg c2]; exact R1⟩
    simp only [f_X7_end_b101_body, g_st_5 R, rd_s, M.1, if_neg (nI_ge hv (show n < 2 ^ 31 by omega)), g_st_4 R, c_ost R, s_entry R M, bd_s, r_s2 R b M.w, if_neg c, s_of_9 R hv16, e1, ostr R1, o9, if_neg c2, f_X7_end_b169, nI_1]
theorem sl_mrain {G : GE} {z : Zs} {b : Bool} {n W t : Nat} (M : MN z b n W t) (c : ¬ z.1 (gm b 1) 2 (t % W) = 0) (x : Int32) : ∀ d k fuel h, k + d = n → d < fuel → Rp G (uG z (gm b 2) (mapN k (miF z b) (z.1 (gm b 2)))) h → ∃ h', f_X7_end_b101 G fuel (z.2.2.2 (bst b)) x (nI k) h = some (x, h') ∧ Rp G (hoZ b t x (uG z (gm b 2) (mapN n (miF z b) (z.1 (gm b 2))))) h' := by
  intro d
  induction d with
  | zero =>
    intro k fuel h hk hf R
    obtain ⟨fuel, rfl⟩ : ∃ q, fuel = q + 1 := ⟨fuel - 1, by omega⟩
    obtain rfl : k = n := by omega
    have M' := M.uv (mapN k (miF z b) (z.1 (gm b 2)))
    obtain ⟨h', e', R'⟩ := s_b175 R (b := b) M'.2.2.2.2.2.1 x
    refine ⟨h', ?_, R'⟩
    have g5 : gI 8 h (z.2.2.2 (bst b)) 5 = some (nI k) := by
      have := g_st_5 R (b := b)
      rw [M'.1] at this
      exact this
    show f_X7_end_b101_body G (f_X7_end_b101 G fuel) (z.2.2.2 (bst b)) x (nI k) h = _
    rw [f_X7_end_b101_body, g5, rd_s, if_pos (Int32.le_refl _)]
    exact e'
  | succ d ih =>
    intro k fuel h hk hf R
    obtain ⟨fuel, rfl⟩ : ∃ q, fuel = q + 1 := ⟨fuel - 1, by omega⟩
    have hkn : k < n := by omega
    have M' := M.uv (mapN k (miF z b) (z.1 (gm b 2)))
    have hrow := uG_row z (gm b 2) k (miF z b)
    have h1 : (uG z (gm b 2) (mapN k (miF z b) (z.1 (gm b 2)))).1 (gm b 1) = z.1 (gm b 1) := uG_n _ _ (gm_ne b (by decide) (by decide) (by decide))
    obtain ⟨h1', e1, R1⟩ := s_rain1 R M' hkn (by rw [h1]; exact c) x (f_X7_end_b101 G fuel)
    have hF : miF (uG z (gm b 2) (mapN k (miF z b) (z.1 (gm b 2)))) b k = miF z b k := by
      show rRain _ = rRain _
      rw [hrow]
    rw [hF, uG_mapN] at R1
    obtain ⟨h', e', R'⟩ := ih (k + 1) fuel h1' (by omega) (by omega) R1
    refine ⟨h', ?_, R'⟩
    show f_X7_end_b101_body G (f_X7_end_b101 G fuel) (z.2.2.2 (bst b)) x (nI k) h = _
    rw [← e']
    exact e1
theorem s_mrain {G : GE} {z : Zs} {h : PH} (R : Rp G z h) {b : Bool} {n W t : Nat} (M : MN z b n W t) (x : Int32) : ∃ h', f_X7_end_b101 G LF (z.2.2.2 (bst b)) x (0 : Int32) h = some (x, h') ∧ Rp G (hoZ b t x (raM b n (t % W) z)) h' := by
  by_cases c : z.1 (gm b 1) 2 (t % W) = 0
  · obtain ⟨h', e', R'⟩ := s_b175 R (b := b) M.2.2.2.2.2.1 x
    refine ⟨h', ?_, by rw [raM, if_pos c]; exact R'⟩
    show f_X7_end_b101_body G (f_X7_end_b101 G 99999) (z.2.2.2 (bst b)) x (0 : Int32) h = _
    by_cases c0 : nI n ≤ (0 : Int32)
    · rw [f_X7_end_b101_body, g_st_5 R, rd_s, M.1, if_pos c0]
      exact e'
    · simp only [f_X7_end_b101_body, g_st_5 R, rd_s, M.1, if_neg c0, g_st_4 R, c_ost R, s_entry R M, bd_s, r_s2 R b M.w, if_pos c]
      exact e'
  · have := sl_mrain M c x n 0 LF h (by omega) (by have := M.2.1; unfold LF; omega) (by rw [mapN_0, uG_id]; exact R)
    rw [raM, if_neg c]
    exact this
/-- an end of the model's hour, from where its agenda is gone through -/
def fiZ (b : Bool) (n w t : Nat) (q : Zs × Nat × Int32) : Zs := hoZ b t q.2.2 (raM b n w (uI q.1 (gm b 0) 0 9 (nI q.2.1)))
theorem MN.u9 {z : Zs} {b : Bool} {n W t : Nat} (M : MN z b n W t) (x : Int32) : MN (uI z (gm b 0) 0 9 x) b n W t := by
  obtain ⟨h1, h2, h3, h4, h5, h6, h7⟩ := M
  refine ⟨?_, h2, ?_, h4, h5, ?_, h7⟩
  · rw [uI_s]; exact h1
  · rw [uI_s]; exact h3
  · rw [uI_s]; exact h6
theorem sl_ag {G : GE} {b : Bool} {n W t ne : Nat} (h20 : ne ≤ 20) : ∀ d k l x fuel z h, k + d = ne → l ≤ k → d < fuel → MN z b n W t → z.1 (gm b 0) 0 9 = nI ne → (∀ i, k ≤ i → i < ne → isB 12 (z.1 (gm b 4) i 0)) → Rp G z h →
    ∃ h', f_X7_end_b6 G fuel (z.2.2.2 (bst b)) x (nI l) (nI k) h = some ((agZ b n t d k l x z).2.2, h') ∧ Rp G (fiZ b n (t % W) t (agZ b n t d k l x z)) h' := by
  intro d
  induction d with
  | zero =>
    intro k l x fuel z h hk hl hf M he hB R
    obtain ⟨fuel, rfl⟩ : ∃ q, fuel = q + 1 := ⟨fuel - 1, by omega⟩
    obtain rfl : k = ne := by omega
    obtain ⟨h1, e1, R1⟩ := w_st_9 R (b := b) (nI l)
    obtain ⟨h', e', R'⟩ := s_mrain R1 (M.u9 (nI l)) x
    refine ⟨h', ?_, R'⟩
    show f_X7_end_b6_body G (f_X7_end_b6 G fuel) (z.2.2.2 (bst b)) x (nI l) (nI k) h = _
    rw [f_X7_end_b6_body, g_st_9 R, rd_s, he, if_pos (Int32.le_refl _), e1, rd_s]
    exact e'
  | succ d ih =>
    intro k l x fuel z h hk hl hf M he hB R
    obtain ⟨fuel, rfl⟩ : ∃ q, fuel = q + 1 := ⟨fuel - 1, by omega⟩
    have hke : k < ne := by omega
    have hk20 : k < 20 := by omega
    have a0 := r_s5 R b (i := k) (k := 0) (by decide) hk20
    have a1 := r_s5 R b (i := k) (k := 1) (by decide) hk20
    have i1 : nI (2 * k + 0) + (1 : Int32) = nI (2 * k + 1) := nI_1 _
    by_cases c : z.1 (gm b 4) k 1 = nI t
    · obtain ⟨m, hm, hm2⟩ := hB k (Nat.le_refl _) hke
      have hmc : (z.1 (gm b 4) k 0).toNatClampNeg = m := by rw [hm2, nI_clamp (by omega)]
      obtain ⟨h1, e1, R1⟩ := s_vote R (b := b) M.1 M.2.1 hm
      have q0 : (voZ b n m z).1 (gm b 0) = z.1 (gm b 0) := voZ_n _ _ _ _ (gm_ne b (by decide) (by decide) (by decide)) (gm_ne b (by decide) (by decide) (by decide))
      have q4 : (voZ b n m z).1 (gm b 4) = z.1 (gm b 4) := voZ_n _ _ _ _ (gm_ne b (by decide) (by decide) (by decide)) (gm_ne b (by decide) (by decide) (by decide))
      obtain ⟨h', e', R'⟩ := ih (k + 1) l (x + vW b n m z) fuel (voZ b n m z) h1 (by omega) (by omega) (by omega) (M.of q0) (by rw [q0]; exact he) (fun i hi hi2 => by rw [q4]; exact hB i (by omega) hi2) R1
      rw [voZ_2] at e'
      have hag : agZ b n t (d + 1) k l x z = agZ b n t d (k + 1) l (x + vW b n m z) (voZ b n m z) := by
        rw [agZ, if_pos c, hmc]
      rw [hag]
      refine ⟨h', ?_, R'⟩
      show f_X7_end_b6_body G (f_X7_end_b6 G fuel) (z.2.2.2 (bst b)) x (nI l) (nI k) h = _
      rw [hm2] at a0
      simp only [f_X7_end_b6_body, g_st_9 R, rd_s, he, if_neg (nI_ge hke (show ne < 2 ^ 31 by omega)), g_st_10 R, ix2_0, i1, a1, g_st_0 R, M.2.2.2.2.2.1, if_pos c, a0, c_ost R, e1, bd_s, f_X7_end_b88, nI_1, e']
    · obtain ⟨h1, e1, R1⟩ := s_cp R (b := b) hl hk20 (f_X7_end_b6 G fuel) _ x rfl
      have q0 : (cpZ b l k z).1 (gm b 0) = z.1 (gm b 0) := uG_n _ _ (gm_ne b (by decide) (by decide) (by decide))
      obtain ⟨h', e', R'⟩ := ih (k + 1) (l + 1) x fuel (cpZ b l k z) h1 (by omega) (by omega) (by omega) (M.of q0) (by rw [q0]; exact he) (fun i hi hi2 => by
        rw [cpZ, uR_n _ _ (fun q => by omega)]
        exact hB i (by omega) hi2) R1
      have e' : f_X7_end_b6 G fuel (z.2.2.2 (bst b)) x (nI (l + 1)) (nI (k + 1)) h1 = _ := e'
      have hag : agZ b n t (d + 1) k l x z = agZ b n t d (k + 1) (l + 1) x (cpZ b l k z) := by
        rw [agZ, if_neg c]
      rw [hag]
      refine ⟨h', ?_, R'⟩
      show f_X7_end_b6_body G (f_X7_end_b6 G fuel) (z.2.2.2 (bst b)) x (nI l) (nI k) h = _
      rw [e'] at e1
      rw [f_X7_end_b6_body, g_st_9 R, rd_s, he, if_neg (nI_ge hke (by omega)), g_st_10 R, rd_s, ix2_1, a1, rd_s, g_st_0 R, rd_s, M.2.2.2.2.2.1, if_neg c]
      rw [g_st_10 R, ix2_1] at e1
      exact e1
/-- the model's end of an hour -/
def meZ (b : Bool) (n w t ne : Nat) (z : Zs) : Zs := fiZ b n w t (agZ b n t ne 0 0 0 z)
def meK (b : Bool) (n t ne : Nat) (z : Zs) : Int32 := (agZ b n t ne 0 0 0 z).2.2
theorem s_mend {G : GE} {z : Zs} {h : PH} (R : Rp G z h) {b : Bool} {n W t ne : Nat} (M : MN z b n W t) (h20 : ne ≤ 20) (he : z.1 (gm b 0) 0 9 = nI ne) (hB : ∀ i, i < ne → isB 12 (z.1 (gm b 4) i 0)) : ∃ h', f_X7_end G (z.2.2.2 (bst b)) h = some (meK b n t ne z, h') ∧ Rp G (meZ b n (t % W) t ne z) h' :=
  sl_ag h20 ne 0 0 0 LF z h (by omega) (Nat.le_refl _) (by unfold LF; omega) M he (fun i _ hi => hB i hi) R
/-- copies -/
theorem cpI_of {h : PH} {k n0 src dst : Nat} {f g : Nat → Int32} (hs : h.2 src = some (.inl (k, n0, .inl f))) (hd : h.2 dst = some (.inl (k, n0, .inl g))) (hz : k = 2 → ∀ i, i < n0 → f i = 0 ∨ f i = 1) (hn : n0 < 2 ^ 31) (hne : ¬ src = dst) : cpI k h src (0 : Int32) dst (0 : Int32) (nI n0) = some (h.1, va_up h.2 dst (some (.inl (k, n0, .inl (va_cpy f g 0 0 n0))))) := by
  have h0 : (0 : Int32).toNatClampNeg = 0 := by decide
  have hc : (nI n0).toNatClampNeg = n0 := nI_clamp hn
  unfold cpI
  simp only [hs, hd, h0, hc]
  have hcond : k = k ∧ k = k ∧ ¬ (0 : Int32) < 0 ∧ ¬ (0 : Int32) < 0 ∧ ¬ nI n0 < 0 ∧ 0 + n0 ≤ n0 ∧ 0 + n0 ≤ n0 ∧ (k = 2 → ∀ i, i < n0 → f (0 + i) = 0 ∨ f (0 + i) = 1) ∧ ¬ src = dst := ⟨rfl, rfl, by decide, by decide, nI_pos hn, by omega, by omega, fun q i hi => by rw [Nat.zero_add]; exact hz q i hi, hne⟩
  first
    | rw [if_pos hcond]
    | simp [nI_pos hn, hne, fun q => hz q]
      exact fun q i hi h3 => (hz q i hi).resolve_left h3
theorem Rp.saN {G : GE} {z : Zs} {h : PH} (R : Rp G z h) (k : Nat) (hk : k < 6 := by decide) : ¬ z.2.2.2 (bsa false k) = z.2.2.2 (bsa true k) := fun e => by
  have h1 : ∀ b, ∃ c, ct G z (bsa b k) = some c := fun b => by
    match k, hk with
    | 0, _ => exact ⟨_, rfl⟩
    | 1, _ => exact ⟨_, rfl⟩
    | 2, _ => exact ⟨_, rfl⟩
    | 3, _ => exact ⟨_, rfl⟩
    | 4, _ => exact ⟨_, rfl⟩
    | 5, _ => exact ⟨_, rfl⟩
  obtain ⟨c, q1⟩ := h1 false
  obtain ⟨c', q2⟩ := h1 true
  have := R.1.2.1 _ _ c c' q1 q2 e
  cases this
def cpN (N : Nat) (f g : Nat → Nat → Int32) : Nat → Nat → Int32 := fun i => if i < N then f i else g i
theorem fl_cpy {d N : Nat} (hd : 0 < d) (f g : Nat → Nat → Int32) : va_cpy (fl d f) (fl d g) 0 0 (N * d) = fl d (cpN N f g) := by
  funext j
  unfold va_cpy fl cpN
  rw [Nat.zero_add, Nat.zero_add, Nat.sub_zero]
  by_cases c : j < N * d
  · rw [if_pos ⟨Nat.zero_le _, c⟩, if_pos ((Nat.div_lt_iff_lt_mul hd).mpr c)]
  · rw [if_neg (fun q => c q.2), if_neg (fun q => c ((Nat.div_lt_iff_lt_mul hd).mp q))]
theorem e_st_gm (b : Bool) (l : Lb) (k : Nat) (h : dep l (gm b 0) k) : l = bst b ∧ k = 0 := by
  have h3 : l = bst b ∨ True := Or.inr trivial
  rcases l with u|u|u|c|c|k'|k'|j|j|j|j|j|⟨c, j⟩|⟨c, k'⟩
  · have := h.1; have := gm_ge b 0; omega
  · have := h.1; have := gm_ge b 0; omega
  · exact h.elim
  · exact h.elim
  · obtain ⟨h1, h2⟩ := h
    rw [(gm_in (by decide) (by decide) h1).1]
    exact ⟨rfl, h2⟩
  · have := h.1; have := gm_ge b 0; omega
  · exact h.elim
  · have := h.1; have := gm_ge b 0; omega
  · have := h.1; have := gm_ge b 0; omega
  · have := h.1; have := gm_ge b 0; omega
  · have := h.1; have := gm_ge b 0; omega
  · have := h.1; have := gm_ge b 0; omega
  · have := h.1; have := gm_ge b 0; have := gv_lt c; omega
  · rcases h with ⟨-, h1, -⟩ | ⟨-, h1⟩ | ⟨-, h1⟩ | ⟨-, h1⟩ <;> exact absurd (gm_in (by decide) (by decide) h1).2 (by decide)
/-- a whole group written, whose one place is l -/
theorem Rp.wG {G : GE} {z : Zs} {h : PH} (R : Rp G z h) {l : Lb} {g : Nat} (F : Nat → Nat → Int32) {c c' : PC} (hc : ct G z l = some c) (hs : ct G (uG z g F) l = some c') (hd : ∀ l' a, dep l' g a → l' = l) : Rp G (uG z g F) (h.1, va_up h.2 (z.2.2.2 l) (some c')) := by
  refine ⟨Rq.wr R.1 l c' hc hs (fun k hk => ct_dep (z := z) (z' := uG z g F) rfl k (fun g' a' hg => ?_)), R.2⟩
  have hne : ¬ g' = g := fun e => hk (hd k a' (e ▸ hg))
  rw [uG_n _ _ hne]
theorem s_cpa3 {G : GE} {z : Zs} {h : PH} (R : Rp G z h) : ∃ h', cpI 0 h (z.2.2.2 (bsa false 3)) (0 : Int32) (z.2.2.2 (bsa true 3)) (0 : Int32) (nI 160) = some h' ∧ Rp G (uG z (gm true 2) (cpN 16 (z.1 (gm false 2)) (z.1 (gm true 2)))) h' := by
  refine ⟨_, cpI_of (R.at (e_s3 (b := false))) (R.at (e_s3 (b := true))) (fun q => absurd q (by decide)) (by decide) (R.saN 3), R.wG (l := bsa true 3) _ e_s3 ?_ (fun l' a => d_s3 true a)⟩
  rw [e_s3, uG_s, show (160 : Nat) = 16 * 10 from rfl, fl_cpy (by decide)]
theorem s_cpa4 {G : GE} {z : Zs} {h : PH} (R : Rp G z h) : ∃ h', cpI 0 h (z.2.2.2 (bsa false 4)) (0 : Int32) (z.2.2.2 (bsa true 4)) (0 : Int32) (nI 72) = some h' ∧ Rp G (uG z (gm true 3) (cpN 12 (z.1 (gm false 3)) (z.1 (gm true 3)))) h' := by
  refine ⟨_, cpI_of (R.at (e_s4 (b := false))) (R.at (e_s4 (b := true))) (fun q => absurd q (by decide)) (by decide) (R.saN 4), R.wG (l := bsa true 4) _ e_s4 ?_ (fun l' a => d_s4 true a)⟩
  rw [e_s4, uG_s, show (72 : Nat) = 12 * 6 from rfl, fl_cpy (by decide)]
theorem s_cpa5 {G : GE} {z : Zs} {h : PH} (R : Rp G z h) : ∃ h', cpI 0 h (z.2.2.2 (bsa false 5)) (0 : Int32) (z.2.2.2 (bsa true 5)) (0 : Int32) (nI 40) = some h' ∧ Rp G (uG z (gm true 4) (cpN 20 (z.1 (gm false 4)) (z.1 (gm true 4)))) h' := by
  refine ⟨_, cpI_of (R.at (e_s5 (b := false))) (R.at (e_s5 (b := true))) (fun q => absurd q (by decide)) (by decide) (R.saN 5), R.wG (l := bsa true 5) _ e_s5 ?_ (fun l' a => d_s5 true a)⟩
  rw [e_s5, uG_s, show (40 : Nat) = 20 * 2 from rfl, fl_cpy (by decide)]
theorem s_cpw0 {G : GE} {z : Zs} {h : PH} (R : Rp G z h) : ∃ h', cpI 0 h (z.2.2.2 (bsa false 0)) (0 : Int32) (z.2.2.2 (bsa true 0)) (0 : Int32) (24 : Int32) = some h' ∧ Rp G (uR z (gm true 1) 0 (va_cpy (z.1 (gm false 1) 0) (z.1 (gm true 1) 0) 0 0 24)) h' := by
  refine ⟨_, cpI_of (n0 := 24) (R.at (e_s0 (b := false))) (R.at (e_s0 (b := true))) (fun q => absurd q (by decide)) (by decide) (R.saN 0), R.wR (l := bsa true 0) _ e_s0 ?_ (fun l' => d_sw true 0 (by decide))⟩
  rw [e_s0, uR_s]
theorem s_cpw1 {G : GE} {z : Zs} {h : PH} (R : Rp G z h) : ∃ h', cpI 0 h (z.2.2.2 (bsa false 1)) (0 : Int32) (z.2.2.2 (bsa true 1)) (0 : Int32) (24 : Int32) = some h' ∧ Rp G (uR z (gm true 1) 1 (va_cpy (z.1 (gm false 1) 1) (z.1 (gm true 1) 1) 0 0 24)) h' := by
  refine ⟨_, cpI_of (n0 := 24) (R.at (e_s1 (b := false))) (R.at (e_s1 (b := true))) (fun q => absurd q (by decide)) (by decide) (R.saN 1), R.wR (l := bsa true 1) _ e_s1 ?_ (fun l' => d_sw true 1 (by decide))⟩
  rw [e_s1, uR_s]
theorem s_cpw2 {G : GE} {z : Zs} {h : PH} (R : Rp G z h) (h01 : ∀ i, i < 24 → z.1 (gm false 1) 2 i = 0 ∨ z.1 (gm false 1) 2 i = 1) : ∃ h', cpI 2 h (z.2.2.2 (bsa false 2)) (0 : Int32) (z.2.2.2 (bsa true 2)) (0 : Int32) (24 : Int32) = some h' ∧ Rp G (uR z (gm true 1) 2 (va_cpy (z.1 (gm false 1) 2) (z.1 (gm true 1) 2) 0 0 24)) h' := by
  refine ⟨_, cpI_of (n0 := 24) (R.at (e_s2 (b := false))) (R.at (e_s2 (b := true))) (fun _ => h01) (by decide) (R.saN 2), R.wR (l := bsa true 2) _ e_s2 ?_ (fun l' => d_sw true 2 (by decide))⟩
  rw [e_s2, uR_s]
