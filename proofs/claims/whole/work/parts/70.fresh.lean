/-! ===== fresh objects ===== -/
def FR (h : PH) (c : PC) : PH := (h.1 + 1, va_up h.2 h.1 (some c))
theorem fr_nw {β : Type} {h : PH} {c : PC} (F : Nat → PH → Option β) : nw h c F = F h.1 (FR h c) := rfl
theorem fr_sF {h : PH} {ci : Nat} {fs : List Value} (k : Nat) (v : Value) (hk : k < fs.length) : sF ci (FR h (.inr (ci, fs))) h.1 k v = some (FR h (.inr (ci, fs.set k v))) := by
  rw [sF_of k v (fs := fs) (by simp [FR, va_up]) hk]
  simp only [FR, va_up2]
theorem init_X5 {G : GE} {h : PH} (a b c : Int32) (hc : c = 0 ∨ c = 1) : f_X5_init G h.1 a b c (FR h (.inr (6, [.int 0, .int 0, .int 0, .int 0]))) = some ((), FR h (.inr (6, [.int a, .int b, .int c, .int (kEighth a)]))) := by
  have e0 : sF 6 (FR h (.inr (6, [.int 0, .int 0, .int 0, .int 0]))) h.1 0 (.int a) = some (FR h (.inr (6, [.int a, .int 0, .int 0, .int 0]))) := fr_sF 0 _ (by decide)
  have e1 : sF 6 (FR h (.inr (6, [.int a, .int 0, .int 0, .int 0]))) h.1 1 (.int b) = some (FR h (.inr (6, [.int a, .int b, .int 0, .int 0]))) := fr_sF 1 _ (show 1 < 4 by decide)
  have e2 : sF 6 (FR h (.inr (6, [.int a, .int b, .int 0, .int 0]))) h.1 2 (.int c) = some (FR h (.inr (6, [.int a, .int b, .int c, .int 0]))) := fr_sF 2 _ (show 2 < 4 by decide)
  have e3 : sF 6 (FR h (.inr (6, [.int a, .int b, .int c, .int 0]))) h.1 3 (.int (kEighth a)) = some (FR h (.inr (6, [.int a, .int b, .int c, .int (kEighth a)]))) := fr_sF 3 _ (show 3 < 4 by decide)
  unfold kEighth at e3 ⊢
  simp only [f_X5_init, e0, rd_s, e1, z1, if_pos hc, e2, e3]
def isE : Lb → Bool
  | .inr (.inr (.inr (.inr (.inr (.inr (.inr (.inr (.inr (.inr (.inr (.inr (.inr _)))))))))))) => false
  | .inr (.inr (.inr (.inr (.inr (.inr (.inr _)))))) => true
  | _ => false
theorem ct_base {G : GE} {z z' : Zs} (hp : ∀ k, isE k = false → z'.2.2.2 k = z.2.2.2 k) (hg : ∀ g, g = 0 ∨ g = 8 ∨ 10 ≤ g → z'.1 g = z.1 g) (hc : ∀ c, c = 6 ∨ 50 ≤ c → z'.2.1 c = z.2.1 c) (hO : z'.2.2.1 = z.2.2.1) (hel : ∀ q j, q < 5 → j < z.2.1 (50 + q) → z'.2.2.2 (el q j) = z.2.2.2 (el q j)) (k : Lb) (hk : isE k = false) : ct G z' k = ct G z k := by
  rcases k with u|u|u|b|b|q|q|j|j|j|j|j|⟨b, j⟩|⟨b, q⟩
  · simp only [ct, hc 6 (Or.inl rfl), hp (bL 0) rfl, hp (bL 1) rfl, hp (bL 2) rfl, hp (btn false) rfl, hp (btn true) rfl, hg 0 (Or.inl rfl)]
  · simp only [ct, hp (bst false) rfl, hp (bst true) rfl, hg 0 (Or.inl rfl)]
  · simp only [ct, hO]
  · simp only [ct, hp (bL (lb b)) rfl]
  · simp only [ct, hp (bsa b 0) rfl, hp (bsa b 1) rfl, hp (bsa b 2) rfl, hp (bsa b 3) rfl, hp (bsa b 4) rfl, hp (bsa b 5) rfl, hg (gm b 0) (Or.inr (Or.inr (gm_ge b 0)))]
  · simp only [ct, hc (50 + q) (Or.inr (by omega)), hc (60 + q) (Or.inr (by omega)), hp (bA q) rfl, hg 8 (Or.inr (Or.inl rfl))]
  · by_cases h5 : q < 5
    · simp only [ct, hc (50 + q) (Or.inr (by omega)), hc (60 + q) (Or.inr (by omega))]
      have e : (fun i => if i < z.2.1 (50 + q) then some (z'.2.2.2 (el q i)) else none) = (fun i => if i < z.2.1 (50 + q) then some (z.2.2.2 (el q i)) else none) := by
        funext i
        by_cases hi : i < z.2.1 (50 + q)
        · rw [if_pos hi, if_pos hi, hel q i h5 hi]
        · rw [if_neg hi, if_neg hi]
      rw [e]
    · simp only [ct, h5, false_and, if_false]
  · cases hk
  · cases hk
  · cases hk
  · cases hk
  · cases hk
  · cases hk
  · have e : ∀ q, z'.1 (gm b q) = z.1 (gm b q) := fun q => hg _ (Or.inr (Or.inr (gm_ge b q)))
    match q with
    | 0 => simp only [ct, saC, e]
    | 1 => simp only [ct, saC, e]
    | 2 => simp only [ct, saC, e]
    | 3 => simp only [ct, saC, e]
    | 4 => simp only [ct, saC, e]
    | 5 => simp only [ct, saC, e]
    | q + 6 => rfl
theorem Rp.fr {G : GE} {z z' : Zs} {h : PH} (R : Rp G z h) (l : Lb) (c : PC) (hs : ct G z' l = some c) (ho : ∀ k d, k ≠ l → ct G z' k = some d → ct G z k = some d) (ha : z'.2.2.2 l = h.1) (hb : ∀ k, k ≠ l → z'.2.2.2 k = z.2.2.2 k) (hW : WL z') : Rp G z' (FR h c) := ⟨Rq.nw R.1 l c hs ho ha hb, hW⟩
/-- a new element i of the group g, counted by c, with the label l -/
noncomputable def nwE (z : Zs) (g c i : Nat) (l : Lb) (r : Nat → Int32) (q : Nat) : Zs := ((uR z g i r).1, fun a => if a = c then i + 1 else z.2.1 a, z.2.2.1, cU z.2.2.2 l q)
theorem nwE_c {z : Zs} {g c i : Nat} {l : Lb} {r : Nat → Int32} {q : Nat} : (nwE z g c i l r q).2.1 c = i + 1 := if_pos rfl
theorem nwE_n {z : Zs} {g c i a : Nat} {l : Lb} {r : Nat → Int32} {q : Nat} (h : ¬ a = c) : (nwE z g c i l r q).2.1 a = z.2.1 a := if_neg h
theorem nwE_s {z : Zs} {g c i : Nat} {l : Lb} {r : Nat → Int32} {q : Nat} : (nwE z g c i l r q).1 g i = r := uR_s _ _ _ _
theorem nwE_r {z : Zs} {g c i a j : Nat} {l : Lb} {r : Nat → Int32} {q : Nat} (h : ¬ (a = g ∧ j = i)) : (nwE z g c i l r q).1 a j = z.1 a j := uR_n _ _ h
theorem nwE_g {z : Zs} {g c i a : Nat} {l : Lb} {r : Nat → Int32} {q : Nat} (h : ¬ a = g) : (nwE z g c i l r q).1 a = z.1 a := uG_n _ _ h
theorem nwE_p {z : Zs} {g c i : Nat} {l k : Lb} {r : Nat → Int32} {q : Nat} (h : ¬ k = l) : (nwE z g c i l r q).2.2.2 k = z.2.2.2 k := cU_n _ _ h
theorem nwE_a {z : Zs} {g c i : Nat} {l : Lb} {r : Nat → Int32} {q : Nat} : (nwE z g c i l r q).2.2.2 l = q := cU_s _ _ _
theorem nwE_W {z : Zs} {g c i : Nat} {l : Lb} {r : Nat → Int32} {q : Nat} (hW : WL z) (hc : c < 50) : WL (nwE z g c i l r q) := fun k hk => by
  rw [nwE_n (by omega), nwE_n (by omega)]
  exact hW k hk
theorem nwE_base {G : GE} {z : Zs} {g c i : Nat} {l : Lb} {r : Nat → Int32} {q : Nat} (hg : 0 < g ∧ g < 8) (hc : c < 6) (hl : isE l = true) (hel : ∀ q j, q < 5 → j < z.2.1 (50 + q) → ¬ el q j = l) (k : Lb) (hk : isE k = false) : ct G (nwE z g c i l r q) k = ct G z k :=
  ct_base (fun k hk => nwE_p (fun e => by rw [e, hl] at hk; cases hk)) (fun a ha => nwE_g (by omega)) (fun a ha => nwE_n (by omega)) rfl (fun q j hq hj => nwE_p (hel q j hq hj)) k hk
theorem Rp.nW {G : GE} {z : Zs} {h : PH} (R : Rp G z h) {i : Nat} (hi : z.2.1 50 ≤ i) (hi2 : i ≤ z.2.1 0) (r : Nat → Int32) : Rp G (nwE z 1 0 i (bwn i) r h.1) (FR h (.inr (6, [.int (r 0), .int (r 1), .int (r 2), .int (kEighth (r 0))]))) := by
  refine R.fr (bwn i) _ ?_ (fun k d hk hd => ?_) nwE_a (fun k hk => nwE_p hk) (nwE_W R.2 (by decide))
  · rw [e_wn (by rw [nwE_c]; omega), nwE_s]
  · have hb := nwE_base (G := G) (z := z) (g := 1) (c := 0) (i := i) (l := bwn i) (r := r) (q := h.1) (by decide) (by decide) rfl (fun q j hq hj e => by
      match q, hq with
      | 0, _ =>
        cases e
        exact absurd hj (Nat.not_lt.mpr hi)
      | 1, _ => cases e
      | 2, _ => cases e
      | 3, _ => cases e
      | 4, _ => cases e)
    rcases k with u|u|u|b|b|q|q|j|j|j|j|j|⟨b, j⟩|⟨b, q⟩
    · rw [hb _ rfl] at hd; exact hd
    · rw [hb _ rfl] at hd; exact hd
    · rw [hb _ rfl] at hd; exact hd
    · rw [hb _ rfl] at hd; exact hd
    · rw [hb _ rfl] at hd; exact hd
    · rw [hb _ rfl] at hd; exact hd
    · rw [hb _ rfl] at hd; exact hd
    · have hj : ¬ j = i := fun e => hk (by rw [e])
      by_cases hl : j < i
      · rw [e_wn (by rw [nwE_c]; omega), nwE_r (fun e => hj e.2)] at hd
        rw [e_wn (by omega)]
        exact hd
      · simp only [ct, nwE_c, if_neg (show ¬ j < i + 1 by omega)] at hd
        cases hd
    · exact hd
    · simp only [ct, nwE_p (show ¬ bmo _ = bwn i from fun e => by cases e)] at hd
      exact hd
    · simp only [ct, nwE_p (show ¬ bho _ = bwn i from fun e => by cases e)] at hd
      exact hd
    · exact hd
    · simp only [ct, nwE_p (show ¬ bms _ = bwn i from fun e => by cases e)] at hd
      cases b <;> exact hd
    · rw [hb _ rfl] at hd; exact hd
