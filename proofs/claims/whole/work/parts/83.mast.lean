/-! ===== a new mast, new vanes ===== -/
theorem fr2_sF {h : PH} {ci : Nat} {fs : List Value} {c : PC} (k : Nat) (v : Value) (hk : k < fs.length) : sF ci (FR (FR h (.inr (ci, fs))) c) h.1 k v = some (FR (FR h (.inr (ci, fs.set k v))) c) := by
  rw [sF_of k v (fs := fs) (by simp [FR, va_up]) hk]
  have e : va_up (FR (FR h (.inr (ci, fs))) c).2 h.1 (some (.inr (ci, fs.set k v))) = (FR (FR h (.inr (ci, fs.set k v))) c).2 := by
    funext q
    simp only [FR, va_up]
    by_cases c1 : q = h.1
    · have c2 : ¬ q = h.1 + 1 := by omega
      rw [if_pos c1, if_neg c2, if_pos c1]
    · rw [if_neg c1, if_neg c1, if_neg c1]
  rw [e]
  rfl
theorem init_X1 {G : GE} {h : PH} (a b c d : Int32) : f_X1_init G h.1 a b c d (FR h (.inr (2, [.int 0, .int 0, .int 0, .int 0, .null]))) = some ((), FR (FR h (.inr (2, [.int a, .int b, .int c, .int d, .ref (h.1 + 1)]))) (cI 8)) := by
  have e0 : sF 2 (FR (FR h (.inr (2, [.int 0, .int 0, .int 0, .int 0, .null]))) (cI 8)) h.1 4 (.ref (FR h (.inr (2, [.int 0, .int 0, .int 0, .int 0, .null]))).1) = some (FR (FR h (.inr (2, [.int 0, .int 0, .int 0, .int 0, .ref (h.1 + 1)]))) (cI 8)) := fr2_sF 4 _ (show 4 < 5 by decide)
  have e1 : sF 2 (FR (FR h (.inr (2, [.int 0, .int 0, .int 0, .int 0, .ref (h.1 + 1)]))) (cI 8)) h.1 0 (.int a) = some (FR (FR h (.inr (2, [.int a, .int 0, .int 0, .int 0, .ref (h.1 + 1)]))) (cI 8)) := fr2_sF 0 _ (show 0 < 5 by decide)
  have e2 : sF 2 (FR (FR h (.inr (2, [.int a, .int 0, .int 0, .int 0, .ref (h.1 + 1)]))) (cI 8)) h.1 1 (.int b) = some (FR (FR h (.inr (2, [.int a, .int b, .int 0, .int 0, .ref (h.1 + 1)]))) (cI 8)) := fr2_sF 1 _ (show 1 < 5 by decide)
  have e3 : sF 2 (FR (FR h (.inr (2, [.int a, .int b, .int 0, .int 0, .ref (h.1 + 1)]))) (cI 8)) h.1 2 (.int c) = some (FR (FR h (.inr (2, [.int a, .int b, .int c, .int 0, .ref (h.1 + 1)]))) (cI 8)) := fr2_sF 2 _ (show 2 < 5 by decide)
  have e4 : sF 2 (FR (FR h (.inr (2, [.int a, .int b, .int c, .int 0, .ref (h.1 + 1)]))) (cI 8)) h.1 3 (.int d) = some (FR (FR h (.inr (2, [.int a, .int b, .int c, .int d, .ref (h.1 + 1)]))) (cI 8)) := fr2_sF 3 _ (show 3 < 5 by decide)
  simp only [f_X1_init, fr_nw, e0, rd_s, e1, e2, e3, e4]
theorem init_X4 {G : GE} {h : PH} (m : Nat) (v d : Int32) : f_X4_init G h.1 m v d (FR h (.inr (5, [.null, .int 0, .int 0, .int 0, .int 0, .int 0, .int 0]))) = some ((), FR h (.inr (5, [.ref m, .int v, .int 0, .int d, .int 0, .int 0, .int 0]))) := by
  have e0 : sF 5 (FR h (.inr (5, [.null, .int 0, .int 0, .int 0, .int 0, .int 0, .int 0]))) h.1 0 (.ref m) = some (FR h (.inr (5, [.ref m, .int 0, .int 0, .int 0, .int 0, .int 0, .int 0]))) := fr_sF 0 _ (show 0 < 7 by decide)
  have e1 : sF 5 (FR h (.inr (5, [.ref m, .int 0, .int 0, .int 0, .int 0, .int 0, .int 0]))) h.1 1 (.int v) = some (FR h (.inr (5, [.ref m, .int v, .int 0, .int 0, .int 0, .int 0, .int 0]))) := fr_sF 1 _ (show 1 < 7 by decide)
  have e2 : sF 5 (FR h (.inr (5, [.ref m, .int v, .int 0, .int 0, .int 0, .int 0, .int 0]))) h.1 3 (.int d) = some (FR h (.inr (5, [.ref m, .int v, .int 0, .int d, .int 0, .int 0, .int 0]))) := fr_sF 3 _ (show 3 < 7 by decide)
  simp only [f_X4_init, e0, rd_s, e1, e2]
noncomputable def mS (z : Zs) (n : Nat) (r : Nat → Int32) (q q' : Nat) : Zs := ((uR (uR z 4 n r) 5 n (fun _ => 0)).1, fun a => if a = 3 then n + 1 else z.2.1 a, z.2.2.1, cU (cU z.2.2.2 (bms n) q) (bho n) q')
theorem mS_p {z : Zs} {n : Nat} {r : Nat → Int32} {q q' : Nat} {l : Lb} (h1 : ¬ l = bms n) (h2 : ¬ l = bho n) : (mS z n r q q').2.2.2 l = z.2.2.2 l := by
  show cU (cU z.2.2.2 (bms n) q) (bho n) q' l = _
  rw [cU_n _ _ h2, cU_n _ _ h1]
theorem mS_m {z : Zs} {n : Nat} {r : Nat → Int32} {q q' : Nat} : (mS z n r q q').2.2.2 (bms n) = q := by
  show cU (cU z.2.2.2 (bms n) q) (bho n) q' (bms n) = _
  rw [cU_n _ _ (fun e => by cases e), cU_s]
theorem mS_h {z : Zs} {n : Nat} {r : Nat → Int32} {q q' : Nat} : (mS z n r q q').2.2.2 (bho n) = q' := cU_s _ _ _
theorem mS_3 {z : Zs} {n : Nat} {r : Nat → Int32} {q q' : Nat} : (mS z n r q q').2.1 3 = n + 1 := rfl
theorem mS_c {z : Zs} {n a : Nat} {r : Nat → Int32} {q q' : Nat} (h : ¬ a = 3) : (mS z n r q q').2.1 a = z.2.1 a := if_neg h
theorem mS_E {z : Zs} {n : Nat} {r : Nat → Int32} {q q' : Nat} {l : Lb} (h : isE l = false) : (mS z n r q q').2.2.2 l = z.2.2.2 l := mS_p (fun e => by rw [e] at h; cases h) (fun e => by rw [e] at h; cases h)
theorem mS_4n {z : Zs} {n j : Nat} {r : Nat → Int32} {q q' : Nat} (h : ¬ j = n) : (mS z n r q q').1 4 j = z.1 4 j := u1_n (z.1 4) r h
theorem mS_4s {z : Zs} {n : Nat} {r : Nat → Int32} {q q' : Nat} : (mS z n r q q').1 4 n = r := u1_s (z.1 4) n r
theorem mS_5n {z : Zs} {n j : Nat} {r : Nat → Int32} {q q' : Nat} (h : ¬ j = n) : (mS z n r q q').1 5 j = z.1 5 j := u1_n (z.1 5) _ h
theorem mS_5s {z : Zs} {n : Nat} {r : Nat → Int32} {q q' : Nat} : (mS z n r q q').1 5 n = fun _ => 0 := u1_s (z.1 5) n _
theorem mS_g {z : Zs} {n g : Nat} {r : Nat → Int32} {q q' : Nat} (h4 : ¬ g = 4) (h5 : ¬ g = 5) : (mS z n r q q').1 g = z.1 g := by
  show (uR (uR z 4 n r) 5 n (fun _ => 0)).1 g = _
  rw [uR, uG_n _ _ h5, uR, uG_n _ _ h4]
theorem Rp.nMs {G : GE} {z : Zs} {h : PH} (R : Rp G z h) {n : Nat} (h3 : z.2.1 3 = n) (hv : ∀ b, z.2.1 (nv b) ≤ n) (r : Nat → Int32) : Rp G (mS z n r h.1 (h.1 + 1)) (FR (FR h (.inr (2, [.int (r 0), .int (r 1), .int (r 2), .int (r 3), .ref (h.1 + 1)]))) (cI 8)) := by
  have key : ∀ k d, k ≠ bms n → k ≠ bho n → ct G (mS z n r h.1 (h.1 + 1)) k = some d → ct G z k = some d := by
    intro k d hk hk2 hd
    have hb : ∀ k, isE k = false → ct G (mS z n r h.1 (h.1 + 1)) k = ct G z k := fun k hk => ct_base (fun k hk => mS_E hk) (fun g hg => mS_g (by omega) (by omega)) (fun c hc => mS_c (by omega)) rfl (fun q j hq hj => by
      match q, hq with
      | 0, _ => exact mS_p (fun e => by cases e) (fun e => by cases e)
      | 1, _ => exact mS_p (fun e => by cases e) (fun e => by cases e)
      | 2, _ => exact mS_p (fun e => by cases e) (fun e => by cases e)
      | 3, _ => exact mS_p (fun e => by cases e) (fun e => by cases e)
      | 4, _ => exact mS_p (fun e => by cases e) (fun e => by cases e)) k hk
    rcases k with u|u|u|b|b|q|q|j|j|j|j|j|⟨b, j⟩|⟨b, q⟩
    · rw [hb _ rfl] at hd; exact hd
    · rw [hb _ rfl] at hd; exact hd
    · rw [hb _ rfl] at hd; exact hd
    · rw [hb _ rfl] at hd; exact hd
    · rw [hb _ rfl] at hd; exact hd
    · rw [hb _ rfl] at hd; exact hd
    · rw [hb _ rfl] at hd; exact hd
    · exact hd
    · exact hd
    · simp only [ct, mS_p (show ¬ bmo _ = bms n from fun e => by cases e) (show ¬ bmo _ = bho n from fun e => by cases e)] at hd
      exact hd
    · have hj : ¬ j = n := fun e => hk (by rw [e])
      by_cases hl : j < n
      · rw [e_ms (by rw [mS_3]; omega), mS_4n hj, mS_p (fun e => by cases e) (fun e => hj (by cases e; rfl))] at hd
        rw [e_ms (by omega)]
        exact hd
      · simp only [ct] at hd
        rw [if_neg (show ¬ j < (mS z n r h.1 (h.1 + 1)).2.1 3 by rw [mS_3]; omega)] at hd
        cases hd
    · have hj : ¬ j = n := fun e => hk2 (by rw [e])
      by_cases hl : j < n
      · rw [e_ho (by rw [mS_3]; omega), mS_5n hj] at hd
        rw [e_ho (by omega)]
        exact hd
      · simp only [ct] at hd
        rw [if_neg (show ¬ j < (mS z n r h.1 (h.1 + 1)).2.1 3 by rw [mS_3]; omega)] at hd
        cases hd
    · have hc : (mS z n r h.1 (h.1 + 1)).2.1 (nv b) = z.2.1 (nv b) := mS_c (by cases b <;> decide)
      by_cases hl : j < z.2.1 (nv b)
      · have hj : ¬ j = n := by have := hv b; omega
        rw [e_vn (by rw [hc]; exact hl), mS_p (fun e => hj (by cases e; rfl)) (fun e => by cases e), mS_g (by cases b <;> decide) (by cases b <;> decide)] at hd
        rw [e_vn hl]
        exact hd
      · simp only [ct, hc, if_neg hl] at hd
        cases hd
    · rw [hb _ rfl] at hd; exact hd
  have hm : ct G (mS z n r h.1 (h.1 + 1)) (bms n) = some (.inr (2, [.int (r 0), .int (r 1), .int (r 2), .int (r 3), .ref (h.1 + 1)])) := by
    rw [e_ms (by rw [mS_3]; omega), mS_4s, mS_h]
  have hh : ct G (mS z n r h.1 (h.1 + 1)) (bho n) = some (cI 8) := by
    rw [e_ho (by rw [mS_3]; omega), mS_5s]
  have nmh : ¬ bms n = bho n := fun e => by cases e
  have s1 : Rq G (cU (ct G (mS z n r h.1 (h.1 + 1))) (bho n) none) (cU z.2.2.2 (bms n) h.1) (FR h (.inr (2, [.int (r 0), .int (r 1), .int (r 2), .int (r 3), .ref (h.1 + 1)]))) := by
    refine Rq.nw R.1 (bms n) _ (by rw [cU_n _ _ nmh]; exact hm) (fun k d hk hd => ?_) (cU_s _ _ _) (fun k hk => cU_n _ _ hk)
    by_cases e : k = bho n
    · rw [e, cU_s] at hd
      cases hd
    · rw [cU_n _ _ e] at hd
      exact key k d hk e hd
  refine ⟨Rq.nw s1 (bho n) _ hh (fun k d hk hd => by rw [cU_n _ _ hk]; exact hd) mS_h (fun k hk => cU_n _ _ hk), fun k hk => ?_⟩
  rw [mS_c (by omega), mS_c (by omega)]
  exact R.2 k hk
theorem Rp.nV_false {G : GE} {z : Zs} {h : PH} (R : Rp G z h) {i : Nat} (hi : z.2.1 53 ≤ i) (hi2 : i ≤ z.2.1 4) (r : Nat → Int32) : Rp G (nwE z 6 4 i (bvn false i) r h.1) (FR h (.inr (5, [.ref (z.2.2.2 (bms i)), .int (r 4), .int (r 5), .int (r 6), .int (r 7), .int (r 8), .int (r 9)]))) := by
  refine R.fr (bvn false i) _ ?_ (fun k d hk hd => ?_) nwE_a (fun k hk => nwE_p hk) (nwE_W R.2 (by decide))
  · rw [e_vn (show i < (nwE z 6 4 i (bvn false i) r h.1).2.1 (nv false) by rw [show nv false = 4 from rfl, nwE_c]; omega), show gv false = 6 from rfl, nwE_s, nwE_p (fun e => by cases e)]
  · have hb := nwE_base (G := G) (z := z) (g := 6) (c := 4) (i := i) (l := bvn false i) (r := r) (q := h.1) (by decide) (by decide) rfl (fun q j hq hj e => by
      match q, hq with
      | 0, _ => cases e
      | 1, _ => cases e
      | 2, _ => cases e
      | 3, _ => cases e; exact absurd hj (Nat.not_lt.mpr hi)
      | 4, _ => cases e)
    rcases k with u|u|u|b|b|q|q|j|j|j|j|j|⟨b, j⟩|⟨b, q⟩
    · rw [hb _ rfl] at hd; exact hd
    · rw [hb _ rfl] at hd; exact hd
    · rw [hb _ rfl] at hd; exact hd
    · rw [hb _ rfl] at hd; exact hd
    · rw [hb _ rfl] at hd; exact hd
    · rw [hb _ rfl] at hd; exact hd
    · rw [hb _ rfl] at hd; exact hd
    · exact hd
    · exact hd
    · simp only [ct, nwE_p (show ¬ bmo _ = bvn false i from fun e => by cases e)] at hd
      exact hd
    · simp only [ct, nwE_p (show ¬ bho _ = bvn false i from fun e => by cases e)] at hd
      exact hd
    · exact hd
    · have hp : (nwE z 6 4 i (bvn false i) r h.1).2.2.2 (bms j) = z.2.2.2 (bms j) := nwE_p (fun e => by cases e)
      by_cases eb : b = false
      · subst eb
        have hj : ¬ j = i := fun e => hk (by rw [e])
        by_cases hl : j < i
        · rw [e_vn (show j < (nwE z 6 4 i (bvn false i) r h.1).2.1 (nv false) by rw [show nv false = 4 from rfl, nwE_c]; omega), show gv false = 6 from rfl, nwE_r (fun e => hj e.2), hp] at hd
          rw [e_vn (show j < z.2.1 (nv false) by show j < z.2.1 4; omega)]
          exact hd
        · simp only [ct, show nv false = 4 from rfl, nwE_c, if_neg (show ¬ j < i + 1 by omega)] at hd
          cases hd
      · have eb : b = true := by cases b <;> first | rfl | exact absurd rfl eb
        subst eb
        simp only [ct, hp] at hd
        exact hd
    · rw [hb _ rfl] at hd; exact hd
theorem Rp.nV_true {G : GE} {z : Zs} {h : PH} (R : Rp G z h) {i : Nat} (hi : z.2.1 54 ≤ i) (hi2 : i ≤ z.2.1 5) (r : Nat → Int32) : Rp G (nwE z 7 5 i (bvn true i) r h.1) (FR h (.inr (5, [.ref (z.2.2.2 (bms i)), .int (r 4), .int (r 5), .int (r 6), .int (r 7), .int (r 8), .int (r 9)]))) := by
  refine R.fr (bvn true i) _ ?_ (fun k d hk hd => ?_) nwE_a (fun k hk => nwE_p hk) (nwE_W R.2 (by decide))
  · rw [e_vn (show i < (nwE z 7 5 i (bvn true i) r h.1).2.1 (nv true) by rw [show nv true = 5 from rfl, nwE_c]; omega), show gv true = 7 from rfl, nwE_s, nwE_p (fun e => by cases e)]
  · have hb := nwE_base (G := G) (z := z) (g := 7) (c := 5) (i := i) (l := bvn true i) (r := r) (q := h.1) (by decide) (by decide) rfl (fun q j hq hj e => by
      match q, hq with
      | 0, _ => cases e
      | 1, _ => cases e
      | 2, _ => cases e
      | 3, _ => cases e
      | 4, _ => cases e; exact absurd hj (Nat.not_lt.mpr hi))
    rcases k with u|u|u|b|b|q|q|j|j|j|j|j|⟨b, j⟩|⟨b, q⟩
    · rw [hb _ rfl] at hd; exact hd
    · rw [hb _ rfl] at hd; exact hd
    · rw [hb _ rfl] at hd; exact hd
    · rw [hb _ rfl] at hd; exact hd
    · rw [hb _ rfl] at hd; exact hd
    · rw [hb _ rfl] at hd; exact hd
    · rw [hb _ rfl] at hd; exact hd
    · exact hd
    · exact hd
    · simp only [ct, nwE_p (show ¬ bmo _ = bvn true i from fun e => by cases e)] at hd
      exact hd
    · simp only [ct, nwE_p (show ¬ bho _ = bvn true i from fun e => by cases e)] at hd
      exact hd
    · exact hd
    · have hp : (nwE z 7 5 i (bvn true i) r h.1).2.2.2 (bms j) = z.2.2.2 (bms j) := nwE_p (fun e => by cases e)
      by_cases eb : b = true
      · subst eb
        have hj : ¬ j = i := fun e => hk (by rw [e])
        by_cases hl : j < i
        · rw [e_vn (show j < (nwE z 7 5 i (bvn true i) r h.1).2.1 (nv true) by rw [show nv true = 5 from rfl, nwE_c]; omega), show gv true = 7 from rfl, nwE_r (fun e => hj e.2), hp] at hd
          rw [e_vn (show j < z.2.1 (nv true) by show j < z.2.1 5; omega)]
          exact hd
        · simp only [ct, show nv true = 5 from rfl, nwE_c, if_neg (show ¬ j < i + 1 by omega)] at hd
          cases hd
      · have eb : b = false := by cases b <;> first | rfl | exact absurd rfl eb
        subst eb
        simp only [ct, hp] at hd
        exact hd
    · rw [hb _ rfl] at hd; exact hd
def rV (a b c d e f : Int32) : Nat → Int32 := upd (upd (upd (upd (upd (upd (upd (upd (upd (upd (fun _ => 0) 0 a) 1 b) 2 c) 3 d) 4 e) 5 0) 6 f) 7 0) 8 0) 9 0
theorem Good.setUp {z z' : Zs} {n : Nat} {r : Nat → Int32} (g : Good z) (hn3 : z.2.1 3 = n) (h16 : n < 16)
    (hg : ∀ q, ¬ q = 0 → ¬ q = 4 → ¬ q = 5 → ¬ q = 6 → ¬ q = 7 → ¬ q = 8 → ¬ q = 10 → ¬ q = 12 → z'.1 q = z.1 q) (h0 : ∀ k, z'.1 0 0 k = z.1 0 0 k)
    (h10 : ∀ k, ¬ k = 5 → z'.1 10 0 k = z.1 10 0 k) (hW : z'.1 10 0 5 = nI (n + 1)) (hc : ∀ c, ¬ c = 3 → ¬ c = 4 → ¬ c = 5 → ¬ c = 53 → ¬ c = 54 → ¬ c = 63 → ¬ c = 64 → z'.2.1 c = z.2.1 c) (c3 : z'.2.1 3 = n + 1) (c4 : z'.2.1 4 = n + 1) (c5 : z'.2.1 5 = n + 1) (c53 : z'.2.1 53 = n + 1) (c54 : z'.2.1 54 = n + 1)
    (w4 : z'.1 4 = u1 (z.1 4) n r) (w6 : z'.1 6 = u1 (z.1 6) n r) (w7 : z'.1 7 = u1 (z.1 7) n r) (w12 : z'.1 12 = u1 (z.1 12) n r)
    (w5 : ∀ j e, j < n + 1 → e < 8 → z'.1 5 j e = sumV (fun u => gL (z'.1 4) j u e) (n + 1)) (hV : VB r) (hB : isB 10 (r 3)) : Good z' := by
  obtain ⟨n', W, H0, ne, S, g1, g2, g3, g4, g5, g6, g7, g8, g9⟩ := g
  obtain rfl : n' = n := by rw [← g9]; exact hn3
  obtain ⟨⟨s1, s2, s3, s4, s5, s6⟩, ⟨C, hd0, hw0, ha0, hv0⟩, e3, M, e5, e6, e7, e8⟩ := S
  have k1 := hg 1 (by decide) (by decide) (by decide) (by decide) (by decide) (by decide) (by decide) (by decide)
  have k2 := hg 2 (by decide) (by decide) (by decide) (by decide) (by decide) (by decide) (by decide) (by decide)
  have k3 := hg 3 (by decide) (by decide) (by decide) (by decide) (by decide) (by decide) (by decide) (by decide)
  have k11 := hg 11 (by decide) (by decide) (by decide) (by decide) (by decide) (by decide) (by decide) (by decide)
  have k13 := hg 13 (by decide) (by decide) (by decide) (by decide) (by decide) (by decide) (by decide) (by decide)
  have k14 := hg 14 (by decide) (by decide) (by decide) (by decide) (by decide) (by decide) (by decide) (by decide)
  have c0 := hc 0 (by decide) (by decide) (by decide) (by decide) (by decide) (by decide) (by decide)
  have c1 := hc 1 (by decide) (by decide) (by decide) (by decide) (by decide) (by decide) (by decide)
  have c2 := hc 2 (by decide) (by decide) (by decide) (by decide) (by decide) (by decide) (by decide)
  have c50 := hc 50 (by decide) (by decide) (by decide) (by decide) (by decide) (by decide) (by decide)
  have c51 := hc 51 (by decide) (by decide) (by decide) (by decide) (by decide) (by decide) (by decide)
  have c52 := hc 52 (by decide) (by decide) (by decide) (by decide) (by decide) (by decide) (by decide)
  have hl : ∀ w, w < n' + 1 → ¬ w = n' → w < n' := fun w hw hn => by omega
  have r12 : z'.1 (gm false 2) = u1 (z.1 (gm false 2)) n' r := w12
  have hms : ∀ j k, j < n' + 1 → k < 4 → z'.1 4 j k = z'.1 (gm false 2) j k := by
    intro j k hj hk
    rw [w4, r12]
    by_cases e : j = n'
    · rw [e, u1_s, u1_s]
    · rw [u1_n _ _ e, u1_n _ _ e]
      exact s2 j k (hl j hj e) hk
  have hvb : ∀ b j, j < n' + 1 → VB (z'.1 (gv b) j) := by
    intro b j hj
    have wb : z'.1 (gv b) = u1 (z.1 (gv b)) n' r := by cases b; exact w6; exact w7
    rw [wb]
    by_cases e : j = n'
    · rw [e, u1_s]
      exact hV
    · rw [u1_n _ _ e]
      exact g8 b j (hl j hj e)
  obtain ⟨p1, p2, p3, p4, p5, p6, p7, p8, p9⟩ := C
  have C' : CN z' (n' + 1) := ⟨by rw [c50, c0]; exact p1, by rw [c0]; exact p2, by rw [c0]; exact p3, by rw [c51, c1]; exact p4, by rw [c1]; exact p5, by rw [c52, c2]; exact p6, by rw [c2]; exact p7, ⟨c53, c4, by rw [c3]; exact Nat.le_refl _, by omega⟩, ⟨c54, c5, by rw [c3]; exact Nat.le_refl _, by omega⟩⟩
  refine ⟨n' + 1, W, H0, ne, ⟨⟨?_, hms, ?_, ?_, ?_, ?_⟩, ⟨C', ?_, ?_, ?_, hvb false⟩, by rw [c0]; exact e3, ?_, ?_, e6, ?_, ?_⟩, by rw [h0]; exact g1, g2, by rw [h0, h10 11 (by decide)]; exact g3, by rw [h10 7 (by decide), c1]; exact g4, ?_, ?_, ?_, hvb, c3⟩
  · intro j hj
    rw [show z'.1 (gv false) = u1 (z.1 (gv false)) n' r from w6, r12]
    by_cases e : j = n'
    · rw [e, u1_s, u1_s]
      exact fun _ _ _ => rfl
    · rw [u1_n _ _ e, u1_n _ _ e]
      exact s1 j (hl j hj e)
  · intro j e hj he
    rw [w5 j e hj he, mLe_g z' false j (n' + 1) he]
    exact sumV_c _ (fun u hu => gL_c e (fun k hk => hms j k hj (by omega)) (fun k hk => hms u k hu (by omega)))
  · intro w k hw hk
    rw [c0] at hw
    rw [k1, show z'.1 (gm false 1) = z.1 (gm false 1) from k11]
    exact s4 w k hw hk
  · intro q k hq hk
    rw [c1] at hq
    rw [k2, show z'.1 (gm false 3) = z.1 (gm false 3) from k13]
    exact s5 q k hq hk
  · intro q hq
    rw [c1] at hq
    rw [k2]
    exact s6 q hq
  · intro w hw
    rw [c0] at hw
    rw [k1]
    exact hd0 w hw
  · intro j hj
    rw [w4]
    by_cases e : j = n'
    · rw [e, u1_s]
      exact hB
    · rw [u1_n _ _ e]
      exact hw0 j (hl j hj e)
  · intro a ha
    rw [c2] at ha
    rw [c1, k3]
    exact ha0 a ha
  · obtain ⟨m1, m2, m3, m4, m5, m6, m7⟩ := M
    exact ⟨hW, by omega, (h10 1 (by decide)).trans m3, m4, m5, (h10 0 (by decide)).trans m6, m7⟩
  · exact (h10 9 (by decide)).trans e5
  · rw [k3, c2, show z'.1 (gm false 4) = z.1 (gm false 4) from k14]
    exact e7
  · rw [c2, k3]
    exact e8
  · intro q k hq
    rw [c1] at hq
    rw [k2, show z'.1 (gm false 3) = z.1 (gm false 3) from k13]
    exact g5 q k hq
  · rw [c2, k3]
    exact g6
  · rw [k11]
    exact g7
theorem hoG_0 (z : Zs) (n : Nat) (h5 : z.1 5 n = fun _ => 0) : hoG z n 0 = z.1 5 := by
  funext j
  unfold hoG
  by_cases c : j = n
  · rw [if_pos c, c, h5]
    funext e
    unfold mR
    split <;> rfl
  · rw [if_neg c, if_neg (Nat.not_lt_zero _)]
theorem hoG_ok {n W H0 ne : Nat} {z : Zs} (S : SimH n W H0 ne z false z false) (r : Nat → Int32) (q q' : Nat) : ∀ j e, j < n + 1 → e < 8 → hoG (mS z n r q q') n n j e = sumV (fun u => gL ((mS z n r q q').1 4) j u e) (n + 1) := by
  intro j e hj he
  unfold hoG
  by_cases c : j = n
  · rw [if_pos c, mR_lt _ _ he, c]
    show _ = sumV (fun u => gL ((mS z n r q q').1 4) n u e) n + gL ((mS z n r q q').1 4) n n e
    rw [gL_self, Int32.add_zero]
  · have hjn : j < n := by omega
    rw [if_neg c, if_pos hjn, mR_lt _ _ he]
    show _ = sumV (fun u => gL ((mS z n r q q').1 4) j u e) n + gL ((mS z n r q q').1 4) j n e
    congr 1
    rw [mS_5n c, S.1.2.2.1 j e hjn he, mLe_g z false j n he]
    have hm : ∀ u, u < n → ∀ k, k < 3 → z.1 (gm false 2) u k = (mS z n r q q').1 4 u k := fun u hu k hk => by
      rw [mS_4n (show ¬ u = n by omega)]
      exact (S.1.2.1 u k hu (by omega)).symm
    exact sumV_c _ (fun u hu => gL_c e (hm j hjn) (hm u hu))
