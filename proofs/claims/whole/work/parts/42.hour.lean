/-! ===== bounds; the votes of an hour; hours ahead ===== -/
def isB (N : Nat) (x : Int32) : Prop := ∃ n : Nat, n < N ∧ x = nI n
def isS (x : Int32) : Prop := ∃ n : Nat, n < 17 ∧ x = nI n - 8
def VB (r : Nat → Int32) : Prop := isB 10 (r 4) ∧ isB 10 (r 5) ∧ isB 16 (r 6) ∧ isS (r 7) ∧ isB 5 (r 8)
theorem isB_0 {N : Nat} (h : 0 < N) : isB N 0 := ⟨0, h, rfl⟩
theorem isS_0 : isS 0 := ⟨8, by decide, by decide⟩
theorem clamp_S (t : Int32) : isS (mxI (-8 : Int32) (mnI (8 : Int32) t)) := by
  by_cases h1 : t < 8
  · by_cases h2 : (-8 : Int32) < t
    · have e : mxI (-8 : Int32) (mnI (8 : Int32) t) = t := by
        show (if (-8 : Int32) < (if t < 8 then t else 8) then (if t < 8 then t else 8) else -8) = t
        rw [if_pos h1, if_pos h2]
      rw [e]
      have h3 := Int32.lt_iff_toInt_lt.mp h1
      have h4 := Int32.lt_iff_toInt_lt.mp h2
      have h5 : (8 : Int32).toInt = 8 := rfl
      have h6 : (-8 : Int32).toInt = -8 := rfl
      refine ⟨(t.toInt + 8).toNat, by omega, ?_⟩
      have h7 : t = Int32.ofInt t.toInt := (Int32.ofInt_toInt t).symm
      have key : ∀ q : Nat, q < 17 → Int32.ofInt ((q : Int) - 8) = nI q - 8 := by decide +kernel
      have h8 := key (t.toInt + 8).toNat (by omega)
      rw [← h8, show (((t.toInt + 8).toNat : Int) - 8) = t.toInt by omega]
      exact h7
    · have e : mxI (-8 : Int32) (mnI (8 : Int32) t) = -8 := by
        show (if (-8 : Int32) < (if t < 8 then t else 8) then (if t < 8 then t else 8) else -8) = -8
        rw [if_pos h1, if_neg h2]
      rw [e]
      exact ⟨0, by decide, by decide⟩
  · have e : mxI (-8 : Int32) (mnI (8 : Int32) t) = 8 := by
      show (if (-8 : Int32) < (if t < 8 then t else 8) then (if t < 8 then t else 8) else -8) = 8
      rw [if_neg h1, if_pos (by decide)]
    rw [e]
    exact ⟨16, by decide, by decide⟩
theorem kSteps_in {a b : Int32} (ha : isB 16 a) (hb : isB 16 b) : ∃ n : Nat, n < 16 ∧ kSteps a b = nI n - 7 := by
  obtain ⟨x, hx, rfl⟩ := ha
  obtain ⟨y, hy, rfl⟩ := hb
  have key : ∀ x, x < 16 → ∀ y, y < 16 → ∃ n : Nat, n < 16 ∧ kSteps (nI x) (nI y) = nI n - 7 := by decide +kernel
  exact key x hx y hy
def kSig (p : Int32) : Int32 := ((p >>> ((31 : Int32) &&& 31)) ||| ((((-p)).toUInt32 >>> (((31 : Int32)).toUInt32 &&& Int32.toUInt32 31)).toInt32))
theorem kSig_S {p : Int32} (hp : ∃ n : Nat, n < 16 ∧ p = nI n - 7) : isS (kSig p) := by
  obtain ⟨n, hn, rfl⟩ := hp
  have key : ∀ n, n < 16 → ∃ y : Nat, y < 17 ∧ kSig (nI n - 7) = nI y - 8 := by decide +kernel
  exact key n hn
theorem kSpin_S {spin wt pull wind rust : Int32} (hp : ∃ n : Nat, n < 16 ∧ pull = nI n - 7) : isS (kSpin spin wt pull wind rust) := by
  show isS (if ((spin * wt) + (pull * wind)) / ((wt + (4 : Int32)) + rust) = 0 then kSig pull else mxI (-8 : Int32) (mnI (8 : Int32) (((spin * wt) + (pull * wind)) / ((wt + (4 : Int32)) + rust))))
  generalize ((spin * wt) + (pull * wind)) / ((wt + (4 : Int32)) + rust) = t0
  by_cases c : t0 = 0
  · rw [if_pos c]
    exact kSig_S hp
  · rw [if_neg c]
    exact clamp_S _
theorem kMod_B {d s : Int32} (hd : isB 16 d) (hs : isS s) : isB 16 (kMod (d + s)) := by
  obtain ⟨x, hx, rfl⟩ := hd
  obtain ⟨y, hy, rfl⟩ := hs
  have key : ∀ x, x < 16 → ∀ y, y < 17 → ∃ n : Nat, n < 16 ∧ kMod (nI x + (nI y - 8)) = nI n := by decide +kernel
  exact key x hx y hy
theorem VB_oil {r : Nat → Int32} (h : VB r) : VB (rOil r) := ⟨h.1, isB_0 (by decide), h.2.2.1, h.2.2.2.1, h.2.2.2.2⟩
theorem VB_rain {r : Nat → Int32} (h : VB r) : VB (rRain r) := by
  unfold rRain
  split
  · refine ⟨h.1, ?_, h.2.2.1, h.2.2.2.1, h.2.2.2.2⟩
    obtain ⟨x, hx, e⟩ := h.2.1
    show isB 10 (mnI (9 : Int32) (r 5 + 1))
    rw [e]
    have key : ∀ x, x < 10 → ∃ n : Nat, n < 10 ∧ mnI (9 : Int32) (nI x + 1) = nI n := by decide +kernel
    exact key x hx
  · exact ⟨h.1, h.2.1, h.2.2.1, h.2.2.2.1, h.2.2.2.2⟩
def isT (x : Int32) : Prop := x = 1 ∨ x = 0 ∨ x = -1
theorem kSide_T (a b c : Int32) : isT (kSide a b c) := by
  unfold kSide
  split
  · split
    · exact Or.inr (Or.inl rfl)
    · exact Or.inr (Or.inr rfl)
  · exact Or.inl rfl
theorem VB_eff {r : Nat → Int32} (h : VB r) (eff : Int32) {side : Int32} (hs : isT side) : VB (rEff eff side r) := by
  unfold rEff
  split
  · exact VB_oil h
  · split
    · refine ⟨h.1, h.2.1, h.2.2.1, h.2.2.2.1, ?_⟩
      obtain ⟨x, hx, e⟩ := h.2.2.2.2
      show isB 5 (mxI (r 8) (4 : Int32))
      rw [e]
      have key : ∀ x, x < 5 → ∃ n : Nat, n < 5 ∧ mxI (nI x) (4 : Int32) = nI n := by decide +kernel
      exact key x hx
    · split
      · refine ⟨?_, h.2.1, h.2.2.1, h.2.2.2.1, h.2.2.2.2⟩
        obtain ⟨x, hx, e⟩ := h.1
        show isB 10 (mxI (0 : Int32) (mnI (9 : Int32) (r 4 + side)))
        rw [e]
        have k1 : ∀ x, x < 10 → ∃ n : Nat, n < 10 ∧ mxI (0 : Int32) (mnI (9 : Int32) (nI x + 1)) = nI n := by decide +kernel
        have k2 : ∀ x, x < 10 → ∃ n : Nat, n < 10 ∧ mxI (0 : Int32) (mnI (9 : Int32) (nI x + 0)) = nI n := by decide +kernel
        have k3 : ∀ x, x < 10 → ∃ n : Nat, n < 10 ∧ mxI (0 : Int32) (mnI (9 : Int32) (nI x + -1)) = nI n := by decide +kernel
        rcases hs with rfl | rfl | rfl
        · exact k1 x hx
        · exact k2 x hx
        · exact k3 x hx
      · exact h
theorem VB_blow {r : Nat → Int32} (h : VB r) (wt wind : Int32) {pull : Int32} (hp : ∃ n : Nat, n < 16 ∧ pull = nI n - 7) : VB (rBlow wt wind pull r) := by
  unfold rBlow
  split
  · split
    · exact ⟨h.1, h.2.1, kMod_B h.2.2.1 (kSpin_S hp), kSpin_S hp, h.2.2.2.2⟩
    · exact ⟨h.1, h.2.1, h.2.2.1, isS_0, h.2.2.2.2⟩
  · refine ⟨h.1, h.2.1, h.2.2.1, isS_0, ?_⟩
    rename_i c
    obtain ⟨x, hx, e⟩ := h.2.2.2.2
    show isB 5 (r 8 - 1)
    rw [e] at c ⊢
    have key : ∀ x, x < 5 → ¬ nI x ≤ 0 → ∃ n : Nat, n < 5 ∧ nI x - 1 = nI n := by decide +kernel
    exact key x hx c
theorem drag_pos {wt rust : Int32} (h1 : isB 10 wt) (h2 : isB 10 rust) : ¬ ((wt + (4 : Int32)) + rust) ≤ 0 := by
  obtain ⟨x, hx, rfl⟩ := h1
  obtain ⟨y, hy, rfl⟩ := h2
  have key : ∀ x, x < 10 → ∀ y, y < 10 → ¬ ((nI x + (4 : Int32)) + nI y) ≤ 0 := by decide +kernel
  exact key x hx y hy
theorem VB_mapN {n k : Nat} {F f : Nat → Nat → Int32} (h1 : ∀ j, j < n → VB (F j)) (h2 : ∀ j, j < n → VB (f j)) : ∀ j, j < n → VB (mapN k F f j) := by
  intro j hj
  unfold mapN
  split
  · exact h1 j hj
  · exact h2 j hj
/-- what stays of a house, whoever passes: the winds, the masts, the motions' and the agenda's facts -/
def SK (z z' : Zs) : Prop := z'.2 = z.2 ∧ z'.1 1 = z.1 1 ∧ z'.1 3 = z.1 3 ∧ z'.1 4 = z.1 4 ∧ z'.1 5 = z.1 5 ∧ (∀ m k, k < 4 → z'.1 2 m k = z.1 2 m k)
theorem SK.rfl' (z : Zs) : SK z z := ⟨rfl, rfl, rfl, rfl, rfl, fun _ _ _ => rfl⟩
theorem SK.tr {a b c : Zs} (h : SK a b) (g : SK b c) : SK a c := ⟨g.1.trans h.1, g.2.1.trans h.2.1, g.2.2.1.trans h.2.2.1, g.2.2.2.1.trans h.2.2.2.1, g.2.2.2.2.1.trans h.2.2.2.2.1, fun m k hk => (g.2.2.2.2.2 m k hk).trans (h.2.2.2.2.2 m k hk)⟩
theorem SK.uv (z : Zs) (b : Bool) (F : Nat → Nat → Int32) : SK z (uG z (gv b) F) := by
  cases b <;> exact ⟨rfl, rfl, rfl, rfl, rfl, fun _ _ _ => rfl⟩
theorem SK.um (z : Zs) (m : Nat) (c : Int32) : SK z (uR z 2 m (rNote c (z.1 2 m))) := by
  refine ⟨rfl, rfl, rfl, rfl, rfl, fun m' k hk => ?_⟩
  by_cases e : m' = m
  · subst e
    rw [uR_s]
    have h4 : ¬ k = 4 := by omega
    have h5 : ¬ k = 5 := by omega
    unfold rNote
    split <;> simp [u1, h4, h5]
  · rw [uR_n _ _ (fun q => e q.2)]
/-- what a house is bound by -/
def HB (z : Zs) (b : Bool) (n : Nat) : Prop := CN z n ∧ (∀ w, w < z.2.1 0 → isD (z.1 1 w 0)) ∧ (∀ j, j < n → isB 10 (z.1 4 j 3)) ∧ (∀ a, a < z.2.1 2 → isB (z.2.1 1) (z.1 3 a 0)) ∧ ∀ j, j < n → VB (z.1 (gv b) j)
theorem HB.sk {z z' : Zs} {b : Bool} {n : Nat} (H : HB z b n) (S : SK z z') (hv : ∀ j, j < n → VB (z'.1 (gv b) j)) : HB z' b n := by
  refine ⟨?_, ?_, ?_, ?_, hv⟩
  · have := H.1
    unfold CN TW at this ⊢
    rw [S.1]
    exact this
  · rw [S.1, S.2.1]; exact H.2.1
  · rw [S.2.2.2.1]; exact H.2.2.1
  · rw [S.1, S.2.2.1]; exact H.2.2.2.1
theorem HB.q {z : Zs} {b : Bool} {n : Nat} (H : HB z b n) : ∀ j, j < n → ¬ ((z.1 4 j 3 + (4 : Int32)) + z.1 (gv b) j 5) ≤ 0 := fun j hj => drag_pos (H.2.2.1 j hj) (H.2.2.2.2 j hj).2.1
/-- the blow of an hour -/
def blS (b : Bool) (n t : Nat) (z : Zs) : Zs := uG z (gv b) (mapN n (bF z b (t % z.2.1 0)) (z.1 (gv b)))
theorem blS_SK (b : Bool) (n t : Nat) (z : Zs) : SK z (blS b n t z) := SK.uv _ _ _
theorem HB.wi {z : Zs} {b : Bool} {n : Nat} (H : HB z b n) (t : Nat) : t % z.2.1 0 < z.2.1 0 := Nat.mod_lt _ H.1.2.1
theorem blS_HB {z : Zs} {b : Bool} {n : Nat} (H : HB z b n) (t : Nat) : HB (blS b n t z) b n := by
  refine H.sk (blS_SK b n t z) ?_
  unfold blS
  rw [uG_s]
  exact VB_mapN (fun j hj => VB_blow (H.2.2.2.2 j hj) _ _ (kSteps_in (H.2.2.2.2 j hj).2.2.1 (H.2.1 _ (H.wi t)))) H.2.2.2.2
theorem s_blS {G : GE} {z : Zs} {h : PH} (R : Rp G z h) {b : Bool} {n t : Nat} (H : HB z b n) : ∃ h', f_X3_blowOnAll G (z.2.2.2 (btn b)) (z.2.2.2 (bwn (t % z.2.1 0))) h = some ((), h') ∧ Rp G (blS b n t z) h' :=
  s_blowOnAll R (H.1.t b) (H.wi t) (H.2.1 _ (H.wi t)) H.q
/-- one entry's vote, the votes of the hour t, their count, the rain -/
def vE (b : Bool) (n : Nat) (rec : Int32) (m : Nat) (z : Zs) : Zs :=
  (fun z1 => if rec = 0 then z1 else uR z1 2 m (rNote (kCarr z b m n) (z1.1 2 m))) (if kCarr z b m n = 0 then z else uG z (gv b) (mapN n (fF z b m) (z.1 (gv b))))
def vS (b : Bool) (n : Nat) (rec t : Int32) (a : Nat) (z : Zs) : Zs := if z.1 3 a 1 = t then vE b n rec (z.1 3 a 0).toNatClampNeg z else z
def vI (b : Bool) (n : Nat) (rec t : Int32) : Nat → Zs → Zs
  | 0, z => z
  | k + 1, z => vS b n rec t k (vI b n rec t k z)
def vK (b : Bool) (n : Nat) (rec t : Int32) : Nat → Zs → Int32
  | 0, _ => 0
  | k + 1, z => if (vI b n rec t k z).1 3 k 1 = t then vK b n rec t k z + kCarr (vI b n rec t k z) b ((vI b n rec t k z).1 3 k 0).toNatClampNeg n else vK b n rec t k z
def raS (b : Bool) (n t : Nat) (z : Zs) : Zs := if z.1 1 (t % z.2.1 0) 2 = 0 then z else uG z (gv b) (mapN n (nF z b) (z.1 (gv b)))
theorem SK.ite {c : Prop} [Decidable c] {z x y : Zs} (hx : SK z x) (hy : SK z y) : SK z (if c then x else y) := by
  split
  · exact hx
  · exact hy
theorem vE_SK (b : Bool) (n : Nat) (rec : Int32) (m : Nat) (z : Zs) : SK z (vE b n rec m z) := by
  unfold vE
  have h1 : SK z (if kCarr z b m n = 0 then z else uG z (gv b) (mapN n (fF z b m) (z.1 (gv b)))) := SK.ite (SK.rfl' z) (SK.uv _ _ _)
  exact SK.ite h1 (h1.tr (SK.um _ _ _))
theorem vE_HB {z : Zs} {b : Bool} {n : Nat} (H : HB z b n) (rec : Int32) (m : Nat) : HB (vE b n rec m z) b n := by
  refine H.sk (vE_SK b n rec m z) ?_
  have h1 : ∀ j, j < n → VB ((if kCarr z b m n = 0 then z else uG z (gv b) (mapN n (fF z b m) (z.1 (gv b)))).1 (gv b) j) := by
    split
    · exact H.2.2.2.2
    · rw [uG_s]
      exact VB_mapN (fun j hj => VB_eff (H.2.2.2.2 j hj) _ (kSide_T _ _ _)) H.2.2.2.2
  unfold vE
  intro j hj
  show VB ((if rec = 0 then _ else _ : Zs).1 (gv b) j)
  split
  · exact h1 j hj
  · rw [uR_n _ _ (fun q => by cases b <;> exact absurd q.1 (by decide))]
    exact h1 j hj
theorem vI_SK (b : Bool) (n : Nat) (rec t : Int32) (k : Nat) (z : Zs) : SK z (vI b n rec t k z) := by
  induction k with
  | zero => exact SK.rfl' z
  | succ k ih =>
    show SK z (vS b n rec t k (vI b n rec t k z))
    generalize vI b n rec t k z = y at ih
    refine ih.tr ?_
    unfold vS
    by_cases c : y.1 3 k 1 = t
    · rw [if_pos c]
      exact vE_SK _ _ _ _ _
    · rw [if_neg c]
      exact SK.rfl' _
theorem vI_HB {z : Zs} {b : Bool} {n : Nat} (H : HB z b n) (rec t : Int32) (k : Nat) : HB (vI b n rec t k z) b n := by
  induction k with
  | zero => exact H
  | succ k ih =>
    show HB (vS b n rec t k (vI b n rec t k z)) b n
    generalize vI b n rec t k z = y at ih
    unfold vS
    by_cases c : y.1 3 k 1 = t
    · rw [if_pos c]
      exact vE_HB ih rec _
    · rw [if_neg c]
      exact ih
theorem raS_SK (b : Bool) (n t : Nat) (z : Zs) : SK z (raS b n t z) := by
  unfold raS
  exact SK.ite (SK.rfl' z) (SK.uv _ _ _)
theorem raS_HB {z : Zs} {b : Bool} {n : Nat} (H : HB z b n) (t : Nat) : HB (raS b n t z) b n := by
  refine H.sk (raS_SK b n t z) ?_
  unfold raS
  split
  · exact H.2.2.2.2
  · rw [uG_s]
    exact VB_mapN (fun j hj => VB_rain (H.2.2.2.2 j hj)) H.2.2.2.2
theorem HB.mo {z : Zs} {b : Bool} {n a : Nat} (H : HB z b n) (ha : a < z.2.1 2) : (z.1 3 a 0).toNatClampNeg < z.2.1 1 := by
  obtain ⟨m, hm, e⟩ := H.2.2.2.1 a ha
  have := H.1.2.2.2.2.1
  rw [e, nI_clamp (by omega)]
  exact hm
theorem s_vE {G : GE} {z : Zs} {h : PH} (R : Rp G z h) {b : Bool} {n m : Nat} (H : HB z b n) (hm : m < z.2.1 1) (rec : Int32) :
    (kCarr z b m n = 0 → ∃ h', (if rec = 0 then h' = h else f_X2_noteVoting G (z.2.2.2 (bmo m)) 0 h = some ((), h')) ∧ Rp G (vE b n rec m z) h') ∧
    (¬ kCarr z b m n = 0 → ∃ h1, f_X3_giveEffect G (z.2.2.2 (btn b)) (z.2.2.2 (bmo m)) h = some ((), h1) ∧ ∃ h', (if rec = 0 then h' = h1 else f_X2_noteVoting G (z.2.2.2 (bmo m)) 1 h1 = some ((), h')) ∧ Rp G (vE b n rec m z) h') := by
  constructor
  · intro c
    by_cases hr : rec = 0
    · exact ⟨h, by rw [if_pos hr], by unfold vE; rw [if_pos c]; simp only [if_pos hr]; exact R⟩
    · obtain ⟨h', e, R'⟩ := s_noteVoting R hm 0
      refine ⟨h', by rw [if_neg hr]; exact e, ?_⟩
      unfold vE
      rw [if_pos c, c]
      simp only [if_neg hr]
      exact R'
  · intro c
    obtain ⟨h1, e1, R1⟩ := s_giveEffect R (H.1.t b) hm
    have c1 : kCarr z b m n = 1 := (kCarr_01 z b m n).resolve_left c
    refine ⟨h1, e1, ?_⟩
    by_cases hr : rec = 0
    · exact ⟨h1, by rw [if_pos hr], by unfold vE; rw [if_neg c]; simp only [if_pos hr]; exact R1⟩
    · obtain ⟨h', e, R'⟩ := s_noteVoting R1 (m := m) hm 1
      refine ⟨h', by rw [if_neg hr]; exact e, ?_⟩
      unfold vE
      rw [if_neg c, c1]
      simp only [if_neg hr]
      exact R'
theorem sl_voteAndRain {G : GE} {z : Zs} {b : Bool} {n t : Nat} (H : HB z b n) (ht : t < 2 ^ 31) (rec : Int32) : ∀ d k fuel h, k + d = z.2.1 2 → d < fuel → Rp G (vI b n rec (nI t) k z) h → ∃ h', f_X6_voteAndRain_b6 G fuel (z.2.2.2 bV) (z.2.2.2 (btn b)) (nI t) rec (vK b n rec (nI t) k z) (nI k) h = some (vK b n rec (nI t) (z.2.1 2) z, h') ∧ Rp G (raS b n t (vI b n rec (nI t) (z.2.1 2) z)) h' := by
  intro d
  induction d with
  | zero =>
    intro k fuel h hk hf R
    obtain ⟨fuel, rfl⟩ : ∃ q, fuel = q + 1 := ⟨fuel - 1, by omega⟩
    have hk : k = z.2.1 2 := by omega
    subst hk
    generalize hz : vI b n rec (nI t) (z.2.1 2) z = z' at R ⊢
    have S : SK z z' := by rw [← hz]; exact vI_SK _ _ _ _ _ _
    have H' : HB z' b n := by rw [← hz]; exact vI_HB H _ _ _
    have h2 := S.1
    have hs : f_Jx4a65c_size_8abf5 G (z'.2.2.2 (bL 2)) h = some (nI (z'.2.1 2), h) := by rw [s_size R (by decide), show z'.2.1 (50 + 2) = z'.2.1 2 from H'.1.2.2.2.2.2.1]
    rw [← h2]
    by_cases c : z'.1 1 (t % z'.2.1 0) 2 = 0
    · refine ⟨h, ?_, by rw [raS, if_pos c]; exact R⟩
      show f_X6_voteAndRain_b6_body G (f_X6_voteAndRain_b6 G fuel) (z'.2.2.2 bV) (z'.2.2.2 (btn b)) (nI t) rec _ (nI (z'.2.1 2)) h = _
      simp only [f_X6_voteAndRain_b6_body, g_V_3 R, rd_s, bd_s, c_oL R (show 2 < 5 by decide), hs, if_pos (Int32.le_refl _), c_oV R, s_windAt R H'.1 ht, g_wn_2 R (H'.wi t), if_pos c, f_X6_voteAndRain_b107]
    · obtain ⟨h1, e1, R1⟩ := s_rainOnAll R (H'.1.t b)
      refine ⟨h1, ?_, by rw [raS, if_neg c]; exact R1⟩
      show f_X6_voteAndRain_b6_body G (f_X6_voteAndRain_b6 G fuel) (z'.2.2.2 bV) (z'.2.2.2 (btn b)) (nI t) rec _ (nI (z'.2.1 2)) h = _
      simp only [f_X6_voteAndRain_b6_body, g_V_3 R, rd_s, bd_s, c_oL R (show 2 < 5 by decide), hs, if_pos (Int32.le_refl _), c_oV R, s_windAt R H'.1 ht, g_wn_2 R (H'.wi t), if_neg c, c_otn R, e1, f_X6_voteAndRain_b107]
  | succ d ih =>
    intro k fuel h hk hf R
    obtain ⟨fuel, rfl⟩ : ∃ q, fuel = q + 1 := ⟨fuel - 1, by omega⟩
    have ih := ih (k + 1) fuel
    have hvI : vI b n rec (nI t) (k + 1) z = vS b n rec (nI t) k (vI b n rec (nI t) k z) := rfl
    have hvK : vK b n rec (nI t) (k + 1) z = if (vI b n rec (nI t) k z).1 3 k 1 = nI t then vK b n rec (nI t) k z + kCarr (vI b n rec (nI t) k z) b ((vI b n rec (nI t) k z).1 3 k 0).toNatClampNeg n else vK b n rec (nI t) k z := rfl
    rw [hvI, hvK] at ih
    have S : SK z (vI b n rec (nI t) k z) := vI_SK _ _ _ _ _ _
    have H' : HB (vI b n rec (nI t) k z) b n := vI_HB H _ _ _
    generalize vI b n rec (nI t) k z = z' at R ih S H'
    have h2 := S.1
    have h20 := H'.1.2.2.2.2.2.2.1
    have hkA : k < z'.2.1 2 := by rw [h2]; omega
    have hs : f_Jx4a65c_size_8abf5 G (z'.2.2.2 (bL 2)) h = some (nI (z'.2.1 2), h) := by rw [s_size R (by decide), show z'.2.1 (50 + 2) = z'.2.1 2 from H'.1.2.2.2.2.2.1]
    have hg : f_Jx4a65c_get_915e3 G (z'.2.2.2 (bL 2)) (nI k) h = some (z'.2.2.2 (bae k), h) := s_get R (k := 2) (j := k) (by decide) (by rw [show z'.2.1 (50 + 2) = z'.2.1 2 from H'.1.2.2.2.2.2.1]; exact hkA)
    have hm := H'.mo hkA
    by_cases c : z'.1 3 k 1 = nI t
    · rw [if_pos c] at ih
      rw [vS, if_pos c] at ih
      have V := s_vE R H' hm rec
      by_cases c2 : kCarr z' b (z'.1 3 k 0).toNatClampNeg n = 0
      · obtain ⟨h1, e1, R1⟩ := V.1 c2
        obtain ⟨h', e', R'⟩ := ih h1 (by omega) (by omega) R1
        refine ⟨h', ?_, R'⟩
        rw [c2, Int32.add_zero, ← h2] at e'
        rw [← h2]
        show f_X6_voteAndRain_b6_body G (f_X6_voteAndRain_b6 G fuel) (z'.2.2.2 bV) (z'.2.2.2 (btn b)) (nI t) rec _ (nI k) h = _
        by_cases hr : rec = 0
        · rw [if_pos hr] at e1
          subst e1
          simp only [f_X6_voteAndRain_b6_body, g_V_3 R, rd_s, bd_s, c_oL R (show 2 < 5 by decide), hs, if_neg (nI_ge hkA (show z'.2.1 2 < 2 ^ 31 by omega)), hg, c_oae R hkA, g_ae_1 R hkA, if_pos c, g_ae_0 R hkA, c_otn R, s_carries R (H'.1.t b) hm, c2, if_true, f_X6_voteAndRain_b72, if_pos hr, f_X6_voteAndRain_b86, nI_1, e']
        · rw [if_neg hr] at e1
          simp only [f_X6_voteAndRain_b6_body, g_V_3 R, rd_s, bd_s, c_oL R (show 2 < 5 by decide), hs, if_neg (nI_ge hkA (show z'.2.1 2 < 2 ^ 31 by omega)), hg, c_oae R hkA, g_ae_1 R hkA, if_pos c, g_ae_0 R hkA, c_otn R, s_carries R (H'.1.t b) hm, c2, if_true, f_X6_voteAndRain_b72, if_neg hr, c_omo R hm, e1, f_X6_voteAndRain_b86, nI_1, e']
      · obtain ⟨h0, e0, h1, e1, R1⟩ := V.2 c2
        obtain ⟨h', e', R'⟩ := ih h1 (by omega) (by omega) R1
        refine ⟨h', ?_, R'⟩
        have c1 : kCarr z' b (z'.1 3 k 0).toNatClampNeg n = 1 := (kCarr_01 _ _ _ _).resolve_left c2
        rw [c1, ← h2] at e'
        rw [← h2]
        show f_X6_voteAndRain_b6_body G (f_X6_voteAndRain_b6 G fuel) (z'.2.2.2 bV) (z'.2.2.2 (btn b)) (nI t) rec _ (nI k) h = _
        by_cases hr : rec = 0
        · rw [if_pos hr] at e1
          subst e1
          simp only [f_X6_voteAndRain_b6_body, g_V_3 R, rd_s, bd_s, c_oL R (show 2 < 5 by decide), hs, if_neg (nI_ge hkA (show z'.2.1 2 < 2 ^ 31 by omega)), hg, c_oae R hkA, g_ae_1 R hkA, if_pos c, g_ae_0 R hkA, c_otn R, s_carries R (H'.1.t b) hm, c1, if_neg (show ¬ (1 : Int32) = 0 by decide), e0, f_X6_voteAndRain_b72, if_pos hr, f_X6_voteAndRain_b86, nI_1, e']
        · rw [if_neg hr] at e1
          have g0 : gR 1 h0 (z'.2.2.2 (bae k)) 0 = some (z'.2.2.2 (bmo (z'.1 3 k 0).toNatClampNeg)) := by
            have h9 : ∃ z0, Rp G z0 h0 ∧ z0.2 = z'.2 ∧ z0.1 3 = z'.1 3 := by
              obtain ⟨h0', e0', R0⟩ := s_giveEffect R (H'.1.t b) hm
              rw [e0] at e0'
              cases e0'
              exact ⟨_, R0, rfl, by cases b <;> rfl⟩
            obtain ⟨z0, R0, q1, q2⟩ := h9
            have := g_ae_0 R0 (i := k) (by rw [q1]; exact hkA)
            rw [q1, q2] at this
            exact this
          have i0 : isC 3 h0 (z'.2.2.2 (bmo (z'.1 3 k 0).toNatClampNeg)) = some () := by
            obtain ⟨h0', e0', R0⟩ := s_giveEffect R (H'.1.t b) hm
            rw [e0] at e0'
            cases e0'
            exact c_omo R0 (i := (z'.1 3 k 0).toNatClampNeg) hm
          simp only [f_X6_voteAndRain_b6_body, g_V_3 R, rd_s, bd_s, c_oL R (show 2 < 5 by decide), hs, if_neg (nI_ge hkA (show z'.2.1 2 < 2 ^ 31 by omega)), hg, c_oae R hkA, g_ae_1 R hkA, if_pos c, g_ae_0 R hkA, c_otn R, s_carries R (H'.1.t b) hm, c1, if_neg (show ¬ (1 : Int32) = 0 by decide), e0, f_X6_voteAndRain_b72, if_neg hr, g0, i0, e1, f_X6_voteAndRain_b86, nI_1, e']
    · rw [if_neg c] at ih
      rw [vS, if_neg c] at ih
      obtain ⟨h', e', R'⟩ := ih h (by omega) (by omega) R
      refine ⟨h', ?_, R'⟩
      rw [← h2] at e' ⊢
      show f_X6_voteAndRain_b6_body G (f_X6_voteAndRain_b6 G fuel) (z'.2.2.2 bV) (z'.2.2.2 (btn b)) (nI t) rec _ (nI k) h = _
      simp only [f_X6_voteAndRain_b6_body, g_V_3 R, rd_s, bd_s, c_oL R (show 2 < 5 by decide), hs, if_neg (nI_ge hkA (show z'.2.1 2 < 2 ^ 31 by omega)), hg, c_oae R hkA, g_ae_1 R hkA, if_neg c, f_X6_voteAndRain_b86, nI_1, e']
/-- the end of an hour -/
def enS (b : Bool) (n : Nat) (rec : Int32) (t : Nat) (z : Zs) : Zs := raS b n t (vI b n rec (nI t) (z.2.1 2) z)
theorem enS_SK (b : Bool) (n : Nat) (rec : Int32) (t : Nat) (z : Zs) : SK z (enS b n rec t z) := (vI_SK _ _ _ _ _ _).tr (raS_SK _ _ _ _)
theorem enS_HB {z : Zs} {b : Bool} {n : Nat} (H : HB z b n) (rec : Int32) (t : Nat) : HB (enS b n rec t z) b n := raS_HB (vI_HB H _ _ _) t
theorem s_voteAndRain {G : GE} {z : Zs} {h : PH} (R : Rp G z h) {b : Bool} {n t : Nat} (H : HB z b n) (ht : t < 2 ^ 31) (rec : Int32) : ∃ h', f_X6_voteAndRain G (z.2.2.2 bV) (z.2.2.2 (btn b)) (nI t) rec h = some (vK b n rec (nI t) (z.2.1 2) z, h') ∧ Rp G (enS b n rec t z) h' :=
  sl_voteAndRain H ht rec (z.2.1 2) 0 LF h (by omega) (by have := H.1.2.2.2.2.2.2.1; unfold LF; omega) R
