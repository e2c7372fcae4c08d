/-! ===== a list grows ===== -/
noncomputable def cU {α : Type} (c : Lb → α) (l : Lb) (x : α) : Lb → α := fun k => @ite _ (k = l) (Classical.propDecidable _) x (c k)
theorem cU_s {α : Type} (c : Lb → α) (l : Lb) (x : α) : cU c l x l = x := if_pos rfl
theorem cU_n {α : Type} (c : Lb → α) {l k : Lb} (x : α) (h : ¬ k = l) : cU c l x k = c k := if_neg h
theorem Rq.wr' {G : GE} {c0 : Lb → Option PC} {ad : Lb → Nat} {h : PH} (R : Rq G c0 ad h) (l : Lb) {c : PC} (c' : PC) (hc : c0 l = some c) : Rq G (cU c0 l (some c')) ad (h.1, va_up h.2 (ad l) (some c')) :=
  R.wr l c' hc (cU_s _ _ _) (fun _ hk => cU_n _ _ hk)
theorem Rq.nw' {G : GE} {c0 : Lb → Option PC} {ad : Lb → Nat} {h : PH} (R : Rq G c0 ad h) (l : Lb) (c' : PC) : Rq G (cU c0 l (some c')) (cU ad l h.1) (h.1 + 1, va_up h.2 h.1 (some c')) :=
  R.nw l c' (cU_s _ _ _) (fun k d hk e => by rw [cU_n _ _ hk] at e; exact e) (cU_s _ _ _) (fun k hk => cU_n _ _ hk)
theorem Rq.ex {G : GE} {c0 c1 : Lb → Option PC} {ad : Lb → Nat} {h : PH} (R : Rq G c0 ad h) (e : ∀ l, c1 l = c0 l) : Rq G c1 ad h := by
  rw [show c1 = c0 from funext e]
  exact R
theorem Rq.get {G : GE} {c0 : Lb → Option PC} {ad : Lb → Nat} {h : PH} (R : Rq G c0 ad h) {l : Lb} {c : PC} (hl : c0 l = some c) : h.2 (ad l) = some c := (R.2.2 l c hl).1
theorem Rq.de {G : GE} {c0 : Lb → Option PC} {ad : Lb → Nat} {h : PH} (R : Rq G c0 ad h) {l : Lb} {c : PC} (hl : c0 l = some c) : ¬ ad l = gDE G := fun e => by
  have := (R.2.2 l c hl).2.2
  omega
theorem ne_LA (k : Nat) : ¬ bL k = bA k := fun e => by cases e
theorem ne_AL (k : Nat) : ¬ bA k = bL k := fun e => by cases e
theorem el_nL (k i q : Nat) : ¬ el k i = bL q := by
  unfold el
  split <;> exact fun e => by cases e
theorem el_nA (k i q : Nat) : ¬ el k i = bA q := by
  unfold el
  split <;> exact fun e => by cases e
/-- the world after a list's new length, its room and place -/
noncomputable def uL (z : Zs) (k n c a : Nat) : Zs := (z.1, fun g => if g = 50 + k then n else if g = 60 + k then c else z.2.1 g, z.2.2.1, cU z.2.2.2 (bA k) a)
theorem uL_n {z : Zs} {k n c a g : Nat} (h1 : ¬ g = 50 + k) (h2 : ¬ g = 60 + k) : (uL z k n c a).2.1 g = z.2.1 g := by
  show (if g = 50 + k then n else if g = 60 + k then c else z.2.1 g) = _
  rw [if_neg h1, if_neg h2]
theorem uL_l {z : Zs} {k n c a : Nat} : (uL z k n c a).2.1 (50 + k) = n := if_pos rfl
theorem uL_c {z : Zs} {k n c a : Nat} : (uL z k n c a).2.1 (60 + k) = c := by
  show (if 60 + k = 50 + k then n else if 60 + k = 60 + k then c else z.2.1 (60 + k)) = c
  rw [if_neg (by omega), if_pos rfl]
theorem uL_ad {z : Zs} {k n c a : Nat} {l : Lb} (h : ¬ l = bA k) : (uL z k n c a).2.2.2 l = z.2.2.2 l := cU_n _ _ h
theorem uL_aA {z : Zs} {k n c a : Nat} : (uL z k n c a).2.2.2 (bA k) = a := cU_s _ _ _
set_option maxHeartbeats 4000000 in
theorem ct_uL {G : GE} {z : Zs} {k n c a : Nat} (hk : k < 5) (l : Lb) (h1 : ¬ l = bL k) (h2 : ¬ l = bA k) : ct G (uL z k n c a) l = ct G z l := by
  have e : ∀ g, g < 50 → (uL z k n c a).2.1 g = z.2.1 g := fun g hg => uL_n (by omega) (by omega)
  have f : ∀ l', (∀ q, ¬ l' = bA q) → (uL z k n c a).2.2.2 l' = z.2.2.2 l' := fun l' hl => uL_ad (hl k)
  rcases l with u|u|u|b|b|q|q|j|j|j|j|j|⟨b, j⟩|⟨b, q⟩
  · simp only [ct, e 6 (by decide), f (bL 0) (fun q e => by cases e), f (bL 1) (fun q e => by cases e), f (bL 2) (fun q e => by cases e), f (btn false) (fun q e => by cases e), f (btn true) (fun q e => by cases e)]
    rfl
  · simp only [ct, f (bst false) (fun q e => by cases e), f (bst true) (fun q e => by cases e)]
    rfl
  · rfl
  · simp only [ct, f (bL (lb b)) (fun q e => by cases e)]
  · simp only [ct, f (bsa b 0) (fun q e => by cases e), f (bsa b 1) (fun q e => by cases e), f (bsa b 2) (fun q e => by cases e), f (bsa b 3) (fun q e => by cases e), f (bsa b 4) (fun q e => by cases e), f (bsa b 5) (fun q e => by cases e)]
    rfl
  · have hq : ¬ q = k := fun e => h1 (by rw [e])
    have e1 : (uL z k n c a).2.1 (50 + q) = z.2.1 (50 + q) ∨ ¬ q < 5 := by
      by_cases h5 : q < 5
      · exact Or.inl (uL_n (by omega) (by omega))
      · exact Or.inr h5
    rcases e1 with e1 | e1
    · by_cases h5 : q < 5
      · simp only [ct, e1, uL_n (show ¬ 60 + q = 50 + k by omega) (show ¬ 60 + q = 60 + k by omega), uL_ad (show ¬ bA q = bA k from fun e => hq (by cases e; rfl))]
        rfl
      · simp only [ct, if_neg h5]
    · simp only [ct, if_neg e1]
  · have hq : ¬ q = k := fun e => h2 (by rw [e])
    by_cases h5 : q < 5
    · have g1 : (uL z k n c a).2.1 (50 + q) = z.2.1 (50 + q) := uL_n (by omega) (by omega)
      have g2 : (uL z k n c a).2.1 (60 + q) = z.2.1 (60 + q) := uL_n (by omega) (by omega)
      simp only [ct, g1, g2, f (el q _) (fun q' => el_nA _ _ q')]
    · simp only [ct, h5, false_and, if_false]
  · simp only [ct, e 0 (by decide)]
    rfl
  · simp only [ct, e 1 (by decide)]
    rfl
  · simp only [ct, e 2 (by decide), f (bmo _) (fun q e => by cases e)]
    rfl
  · simp only [ct, e 3 (by decide), f (bho _) (fun q e => by cases e)]
    rfl
  · simp only [ct, e 3 (by decide)]
    rfl
  · have : nv b < 50 := by cases b <;> decide
    simp only [ct, e _ this, f (bms _) (fun q e => by cases e)]
    rfl
  · rfl
/-- the elements stand -/
def EV (G : GE) (z : Zs) (k : Nat) : Prop := ∀ i, i < z.2.1 (50 + k) → ∃ ci fs, ct G z (el k i) = some (.inr (ci, fs)) ∧ ci < 10
/-- the last step: the place n of the array, the length -/
theorem add_end {G : GE} {z : Zs} {k n N a : Nat} {h : PH} {f : Nat → Option Nat} {mcv : Int32} {ar : Nat} (hk : k < 5) (hn : n < N) (hN : N ≤ 36) (ha : ar = a)
    (R : Rq G (cU (cU (ct G z) (bA k) (some (.inl (1, N, .inr (.inr (.inr (.inr f))))))) (bL k) (some (.inr (0, [.int mcv, .ref ar, .int (nI n)])))) (cU z.2.2.2 (bA k) a) h)
    (hmc : mcv = z.1 8 k 0) (hf : ∀ i, i < n → f i = some (z.2.2.2 (el k i))) (hf2 : ∀ i, n ≤ i → f i = none) (he : ∃ ci fs, ct G z (el k n) = some (.inr (ci, fs)) ∧ ci < 10) (hW : WL z) :
    ∃ h', f_Jx4a65c_add_72be8_b11 G (z.2.2.2 (bL k)) (z.2.2.2 (el k n)) a (nI n) h = some ((), h') ∧ Rp G (uL z k (n + 1) N a) h' := by
  subst ha
  subst hmc
  obtain ⟨ci, fs, he, hci⟩ := he
  have eL : (cU z.2.2.2 (bA k) ar) (bL k) = z.2.2.2 (bL k) := cU_n _ _ (ne_LA k)
  have eA : (cU z.2.2.2 (bA k) ar) (bA k) = ar := cU_s _ _ _
  have eE : (cU z.2.2.2 (bA k) ar) (el k n) = z.2.2.2 (el k n) := cU_n _ _ (el_nA _ _ _)
  have hE := R.get (l := el k n) (c := .inr (ci, fs)) (by rw [cU_n _ _ (el_nL _ _ _), cU_n _ _ (el_nA _ _ _)]; exact he)
  rw [eE] at hE
  have hA := R.get (l := bA k) (c := .inl (1, N, .inr (.inr (.inr (.inr f))))) (by rw [cU_n _ _ (ne_AL k), cU_s])
  rw [eA] at hA
  have R1 := R.wr' (bA k) (.inl (1, N, .inr (.inr (.inr (.inr (va_up f n (some (z.2.2.2 (el k n))))))))) (by rw [cU_n _ _ (ne_AL k), cU_s])
  rw [eA] at R1
  have hL := R1.get (l := bL k) (c := .inr (0, [.int (z.1 8 k 0), .ref ar, .int (nI n)])) (by rw [cU_n _ _ (ne_LA k), cU_s])
  rw [eL] at hL
  have R2 := R1.wr' (bL k) (.inr (0, [.int (z.1 8 k 0), .ref ar, .int (nI (n + 1))])) (by rw [cU_n _ _ (ne_LA k), cU_s])
  rw [eL] at R2
  refine ⟨_, ?_, Rq.ex R2 (fun l => ?_), ?_⟩
  · rw [f_Jx4a65c_add_72be8_b11, show isO h (z.2.2.2 (el k n)) = some () by simp [isO, hE, hci], rd_s, aRs_of (some (z.2.2.2 (el k n))) hA hn (by omega), rd_s, sF_of 2 _ hL (by simp), rd_s, nI_1]
    rfl
  · by_cases e1 : l = bL k
    · subst e1
      rw [cU_s, e_L (z := uL z k (n + 1) N ar) hk, uL_l, uL_c, uL_aA, if_neg (by omega)]
      rfl
    · rw [cU_n _ _ e1]
      by_cases e2 : l = bA k
      · subst e2
        rw [cU_s, e_A (z := uL z k (n + 1) N ar) hk (by rw [uL_c]; omega), uL_l, uL_c]
        have : (fun i => if i < n + 1 then some ((uL z k (n + 1) N ar).2.2.2 (el k i)) else none) = va_up f n (some (z.2.2.2 (el k n))) := by
          funext i
          rw [uL_ad (el_nA _ _ _)]
          unfold va_up
          by_cases e3 : i = n
          · rw [if_pos e3, e3, if_pos (by omega)]
          · rw [if_neg e3]
            by_cases e4 : i < n
            · rw [if_pos (by omega), hf i e4]
            · rw [if_neg (by omega), hf2 i (by omega)]
        rw [this]
      · rw [cU_n _ _ e2, cU_n _ _ e1, cU_n _ _ e2]
        exact ct_uL hk l e1 e2
  · intro q hq
    by_cases e : q = k
    · subst e
      rw [uL_l, uL_c]
      omega
    · rw [uL_n (by omega) (by omega), uL_n (by omega) (by omega)]
      exact hW q hq
/-- what add leaves -/
def LA (k n : Nat) (z z' : Zs) : Prop := ∃ N a, z' = uL (uI z 8 k 0 (z.1 8 k 0 + 1)) k (n + 1) N a
theorem nI_sub1 (n : Nat) : nI (n + 1) - nI n = nI 1 := by
  rw [← nI_add, Int32.add_comm, Int32.add_sub_cancel]
theorem s_add {G : GE} {z : Zs} {h : PH} (R : Rp G z h) {k n : Nat} (hk : k < 5) (hn : z.2.1 (50 + k) = n) (h24 : n < 24) (hE : EV G z k) (he : ∃ ci fs, ct G z (el k n) = some (.inr (ci, fs)) ∧ ci < 10) :
    ∃ h' z', f_Jx4a65c_add_9ea2d G (z.2.2.2 (bL k)) (z.2.2.2 (el k n)) h = some (1, h') ∧ Rp G z' h' ∧ LA k n z z' := by
  obtain ⟨h1, e1, R1⟩ := w_L_0 R hk (z.1 8 k 0 + 1)
  have hE1 : EV G (uI z 8 k 0 (z.1 8 k 0 + 1)) k := fun i hi => by
    obtain ⟨ci, fs, q, hc⟩ := hE i hi
    refine ⟨ci, fs, ?_, hc⟩
    rw [← q]
    refine ct_dep (z := z) (z' := uI z 8 k 0 (z.1 8 k 0 + 1)) rfl _ (fun g a hg => uR_n z _ (fun e => ?_))
    rw [e.1, e.2] at hg
    exact el_nL _ _ _ (d_L k hg)
  have he1 : ∃ ci fs, ct G (uI z 8 k 0 (z.1 8 k 0 + 1)) (el k n) = some (.inr (ci, fs)) ∧ ci < 10 := by
    obtain ⟨ci, fs, q, hc⟩ := he
    refine ⟨ci, fs, ?_, hc⟩
    rw [← q]
    refine ct_dep (z := z) (z' := uI z 8 k 0 (z.1 8 k 0 + 1)) rfl _ (fun g a hg => uR_n z _ (fun e => ?_))
    rw [e.1, e.2] at hg
    exact el_nL _ _ _ (d_L k hg)
  suffices hh : ∀ y, y = uI z 8 k 0 (z.1 8 k 0 + 1) → Rp G y h1 → EV G y k → (∃ ci fs, ct G y (el k n) = some (.inr (ci, fs)) ∧ ci < 10) → ∃ h' N a, (rd (gR 0 h1 (y.2.2.2 (bL k)) 1) fun v2 => rd (gI 0 h1 (y.2.2.2 (bL k)) 2) fun v3 => rd (isC 0 h1 (y.2.2.2 (bL k))) fun _ => bd (f_Jx4a65c_add_72be8 G (y.2.2.2 (bL k)) (y.2.2.2 (el k n)) v2 v3 h1) fun _ h => z1 (1 : Int32) (some ((1 : Int32), h))) = some (1, h') ∧ Rp G (uL y k (n + 1) N a) h' by
    obtain ⟨h', N, a, q1, q2⟩ := hh _ rfl R1 hE1 he1
    refine ⟨h', _, ?_, q2, N, a, rfl⟩
    rw [f_Jx4a65c_add_9ea2d, g_L_0 R hk, rd_s, e1, rd_s]
    exact q1
  clear he1 hE1 R1 e1
  intro y hy R1 hE1 he1
  have hny : y.2.1 (50 + k) = n := by rw [hy]; exact hn
  have hW := R1.2
  obtain ⟨w1, w2⟩ := R1.2 k hk
  rw [hny] at w1
  have eL : ∀ a, (cU y.2.2.2 (bA k) a) (bL k) = y.2.2.2 (bL k) := fun a => cU_n _ _ (ne_LA k)
  by_cases c0 : y.2.1 (60 + k) = 0
  · -- the first array
    have hn0 : n = 0 := by omega
    subst hn0
    have R2 := Rq.nw' R1.1 (bA k) (cR 10)
    have R3 := R2.wr' (bL k) (.inr (0, [.int (y.1 8 k 0), .ref h1.1, .int (nI 0)])) (by rw [cU_n _ _ (ne_LA k)]; exact e_L hk)
    rw [eL] at R3
    have hL2 := R2.get (l := bL k) (by rw [cU_n _ _ (ne_LA k)]; exact e_L hk)
    rw [eL] at hL2
    obtain ⟨h', e', R'⟩ := add_end (n := 0) (a := h1.1) (f := fun _ => none) hk (by decide) (by decide) rfl R3 rfl (fun i hi => absurd hi (Nat.not_lt_zero _)) (fun _ _ => rfl) he1 hW
    refine ⟨h', 10, h1.1, ?_, R'⟩
    have hal : aLen G h1 (gDE G) = some 0 := by rw [aLen, if_pos rfl]
    have hcap : mxI (10 : Int32) (nI 0 + 1) = nI 10 := by decide
    have hs := sF_of 1 (.ref h1.1) hL2 (by simp)
    simp only [List.set, hny] at hs
    simp only [g_L_1 R1 hk, if_pos c0, rd_s, g_L_2 R1 hk, hny, c_oL R1 hk, f_Jx4a65c_add_72be8, hal, if_pos (show nI 0 = (0 : Int32) from rfl), f_Jx4a65c_grow_d5877, f_Jx4a65c_grow_92f84, if_neg (show ¬ (0 : Int32) < 0 by decide), if_true, nwA, hcap, if_pos (show ¬ nI 10 < 0 ∧ 10 ≤ 48 by decide), show (nI 10).toNatClampNeg = 10 from by decide, hs, bd_s, e', z1_1]
  · have hal : aLen G h1 (y.2.2.2 (bA k)) = some (nI (y.2.1 (60 + k))) := aLen_of (R1.at (e_A hk c0)) (by decide) (R1.de (e_A hk c0))
    by_cases c1 : n < y.2.1 (60 + k)
    · -- there is room
      have R3 : Rq G (cU (cU (ct G y) (bA k) (some (.inl (1, y.2.1 (60 + k), .inr (.inr (.inr (.inr (fun i => if i < y.2.1 (50 + k) then some (y.2.2.2 (el k i)) else none)))))))) (bL k) (some (.inr (0, [.int (y.1 8 k 0), .ref (y.2.2.2 (bA k)), .int (nI n)])))) (cU y.2.2.2 (bA k) (y.2.2.2 (bA k))) h1 := by
        have ea : cU y.2.2.2 (bA k) (y.2.2.2 (bA k)) = y.2.2.2 := by
          funext l
          by_cases e : l = bA k
          · rw [e, cU_s]
          · rw [cU_n _ _ e]
        rw [ea]
        refine R1.1.ex (fun l => ?_)
        by_cases e1 : l = bL k
        · rw [e1, cU_s, e_L hk, if_neg c0, hny]
        · rw [cU_n _ _ e1]
          by_cases e2 : l = bA k
          · rw [e2, cU_s, e_A hk c0]
          · rw [cU_n _ _ e2]
      obtain ⟨h', e', R'⟩ := add_end (n := n) hk c1 w2 rfl R3 rfl (fun i hi => if_pos (by rw [hny]; exact hi)) (fun i hi => if_neg (by rw [hny]; omega)) he1 hW
      refine ⟨h', y.2.1 (60 + k), y.2.2.2 (bA k), ?_, R'⟩
      simp only [g_L_1 R1 hk, if_neg c0, rd_s, g_L_2 R1 hk, hny, c_oL R1 hk, f_Jx4a65c_add_72be8, hal, if_neg (show ¬ nI n = nI (y.2.1 (60 + k)) from fun e => by have := (nI_eq (show n < 2 ^ 31 by omega) (show y.2.1 (60 + k) < 2 ^ 31 by omega)).mp e; omega), e', bd_s, z1_1]
    · -- a larger array
      have hc : y.2.1 (60 + k) = n := by omega
      have hn0 : 0 < n := by omega
      have hN : ∃ N, N = n + (if n / 2 < 1 then 1 else n / 2) := ⟨_, rfl⟩
      obtain ⟨N, hN⟩ := hN
      have hNn : n < N ∧ N ≤ 36 := by
        split at hN <;> omega
      have R2 := Rq.nw' R1.1 (bA k) (cR N)
      have hA1 := R1.at (e_A hk c0)
      have hlt : y.2.2.2 (bA k) < h1.1 := (R1.1.2.2 _ _ (e_A hk c0)).2.1
      have hA2 : (va_up h1.2 h1.1 (some (cR N))) (y.2.2.2 (bA k)) = some (.inl (1, n, .inr (.inr (.inr (.inr (fun i => if i < n then some (y.2.2.2 (el k i)) else none)))))) := by
        unfold va_up
        rw [if_neg (by omega), hA1, hc, hny]
      have hB2 : (va_up h1.2 h1.1 (some (cR N))) h1.1 = some (cR N) := by
        unfold va_up
        rw [if_pos rfl]
      have hok : okR (h1.1 + 1, va_up h1.2 h1.1 (some (cR N))) (fun i => if i < n then some (y.2.2.2 (el k i)) else none) 0 n := by
        intro i hi q hq
        have hi : i < n := hi
        rw [Nat.zero_add] at hq
        have hq : (if i < n then some (y.2.2.2 (el k i)) else none) = some q := hq
        rw [if_pos hi] at hq
        cases hq
        obtain ⟨ci, fs, q1, q2⟩ := hE1 i (by rw [hny]; exact hi)
        refine ⟨ci, fs, ?_, q2⟩
        have q3 := R1.1.2.2 _ _ q1
        show (if y.2.2.2 (el k i) = h1.1 then _ else _) = _
        rw [if_neg (by omega)]
        exact q3.1
      have hcp : cpR (h1.1 + 1, va_up h1.2 h1.1 (some (cR N))) (y.2.2.2 (bA k)) 0 h1.1 0 (nI n) = some (h1.1 + 1, va_up (va_up h1.2 h1.1 (some (cR N))) h1.1 (some (.inl (1, N, .inr (.inr (.inr (.inr (va_cpy (fun i => if i < n then some (y.2.2.2 (el k i)) else none) (fun _ => none) 0 0 n)))))))) := by
        have h0 : (0 : Int32).toNatClampNeg = 0 := by decide
        have hnc : (nI n).toNatClampNeg = n := nI_clamp (by omega)
        unfold cpR
        simp only [hA2, hB2, h0, hnc]
        rw [if_pos ⟨rfl, rfl, by decide, by decide, nI_pos (by omega), by rw [h0, hnc]; omega, by rw [h0, hnc]; omega, by rw [h0, hnc]; exact hok⟩]
        first | done | rfl | simp only [h0, hnc]
      have R3 := R2.wr' (bA k) (.inl (1, N, .inr (.inr (.inr (.inr (va_cpy (fun i => if i < n then some (y.2.2.2 (el k i)) else none) (fun _ => none) 0 0 n)))))) (cU_s _ _ _)
      rw [cU_s] at R3
      have hL3 := R3.get (l := bL k) (by rw [cU_n _ _ (ne_LA k), cU_n _ _ (ne_LA k)]; exact e_L hk)
      rw [eL] at hL3
      have R4 := R3.wr' (bL k) (.inr (0, [.int (y.1 8 k 0), .ref h1.1, .int (nI n)])) (by rw [cU_n _ _ (ne_LA k), cU_n _ _ (ne_LA k)]; exact e_L hk)
      rw [eL] at R4
      have R4 := Rq.ex (c1 := cU (cU (ct G y) (bA k) (some (.inl (1, N, .inr (.inr (.inr (.inr (va_cpy (fun i => if i < n then some (y.2.2.2 (el k i)) else none) (fun _ => none) 0 0 n)))))))) (bL k) (some (.inr (0, [.int (y.1 8 k 0), .ref h1.1, .int (nI n)])))) R4 (fun l => by
        by_cases e1 : l = bL k
        · rw [e1, cU_s, cU_s]
        · rw [cU_n _ _ e1, cU_n _ _ e1]
          by_cases e2 : l = bA k
          · rw [e2, cU_s, cU_s]
          · rw [cU_n _ _ e2, cU_n _ _ e2, cU_n _ _ e2])
      have hpos : ¬ (n = 0) := by omega
      obtain ⟨h', e', R'⟩ := add_end (n := n) (a := h1.1) hk hNn.1 hNn.2 rfl R4 rfl (fun i hi => by rw [pk_cpy_in (Nat.zero_le _) (by omega), Nat.zero_add, Nat.sub_zero]; exact if_pos hi) (fun i hi => pk_cpy_out (Or.inr (by omega))) he1 hW
      refine ⟨h', N, h1.1, ?_, R'⟩
      have hs := sF_of 1 (.ref h1.1) hL3 (by simp)
      simp only [List.set, hny] at hs
      have hmi : mnI (nI n) (nI N) = nI n := if_neg (nI_nlt (by omega) (by omega))
      have hnl : nI n + mxI (nI (n + 1) - nI n) (nI n >>> ((1 : Int32) &&& 31)) = nI N := by
        have key : ∀ n, n < 24 → nI n + mxI (nI 1) (nI n >>> ((1 : Int32) &&& 31)) = nI (n + (if n / 2 < 1 then 1 else n / 2)) := by decide +kernel
        rw [nI_sub1, hN]
        exact key n h24
      have hal2 : aLen G (h1.1 + 1, va_up h1.2 h1.1 (some (cR N))) (y.2.2.2 (bA k)) = some (nI n) := aLen_of hA2 (by decide) (R1.de (e_A hk c0))
      have hia : isA G h1 (y.2.2.2 (bA k)) = some () := by
        rw [isA, if_neg (R1.de (e_A hk c0)), hA1]
        rfl
      have hNN : ¬ nI N < 0 ∧ N ≤ 48 := ⟨nI_pos (by omega), by omega⟩
      have hNc : (nI N).toNatClampNeg = N := nI_clamp (by omega)
      have hN1 : ¬ nI N ≤ (0 : Int32) := nI_nle (by omega) (by omega)
      have hN2 : ¬ (2147483639 : Int32) < nI N := by
        rw [show (2147483639 : Int32) = nI 2147483639 from rfl]
        exact nI_nlt (by omega) (by omega)
      rw [hc] at hal
      simp only [g_L_1 R1 hk, if_neg c0, rd_s, g_L_2 R1 hk, hny, c_oL R1 hk, f_Jx4a65c_add_72be8, hal, if_true, f_Jx4a65c_grow_d5877, nI_1, f_Jx4a65c_grow_92f84, if_pos (show (0 : Int32) < nI n from nI_lt (a := 0) hn0 (by omega)), f_Jx4a65c_grow_92f84_b20, f_J8_newLength_cabcc, hnl, if_neg hN1, if_neg hN2, bd_s, f_J7_copyOf_1904c, hia, f_J7_copyOf_6403c, nwA, if_pos hNN, hNc, f_J7_copyOf_6403c_b24, hal2, hmi, hcp, hs, e', z1_1]
