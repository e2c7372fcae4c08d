/-! ===== writes ===== -/
theorem Rp.wR {G : GE} {z : Zs} {h : PH} (R : Rp G z h) {l : Lb} {g a : Nat} (r : Nat → Int32) {c c' : PC} (hc : ct G z l = some c) (hs : ct G (uR z g a r) l = some c') (hd : ∀ l', dep l' g a → l' = l) : Rp G (uR z g a r) (h.1, va_up h.2 (z.2.2.2 l) (some c')) := by
  refine ⟨Rq.wr R.1 l c' hc hs (fun k hk => ct_dep (z := z) (z' := uR z g a r) rfl k (fun g' a' hg => uR_n z r (fun e => ?_))), R.2⟩
  rw [e.1, e.2] at hg
  exact hk (hd k hg)
/-- a row as it was -/
theorem Rp.same {G : GE} {z z' : Zs} {h : PH} (R : Rp G z h) (h2 : z'.2 = z.2) (hg : ∀ g a, z'.1 g a = z.1 g a) : Rp G z' h := by
  have : z' = z := Prod.ext (funext fun g => funext fun a => hg g a) h2
  rw [this]
  exact R
theorem oo {n : Nat} (k : Nat) (h : k < 2 ^ 31 := by decide) : (OfNat.ofNat k : Int32) = nI k := rfl
theorem w_V_6 {G : GE} {z : Zs} {h : PH} (R : Rp G z h)  (x : Int32) : ∃ h', sF 7 h (z.2.2.2 bV) 6 (.int x) = some h' ∧ Rp G (uI z 0 0 0 x) h' := by
  refine ⟨_, sF_of 6 (.int x) (R.at (e_V)) (by simp), R.wR _ (e_V) ?_ (fun l' => d_V)⟩
  rw [e_V (z := uR z 0 0 (u1 (z.1 0 0) 0 x))]
  simp [uR_s, uR_2, u1, List.set] <;> rfl
theorem w_V_7 {G : GE} {z : Zs} {h : PH} (R : Rp G z h)  (x : Int32) : ∃ h', sF 7 h (z.2.2.2 bV) 7 (.int x) = some h' ∧ Rp G (uI z 0 0 1 x) h' := by
  refine ⟨_, sF_of 7 (.int x) (R.at (e_V)) (by simp), R.wR _ (e_V) ?_ (fun l' => d_V)⟩
  rw [e_V (z := uR z 0 0 (u1 (z.1 0 0) 1 x))]
  simp [uR_s, uR_2, u1, List.set] <;> rfl
theorem w_X_0 {G : GE} {z : Zs} {h : PH} (R : Rp G z h)  (x : Int32) : ∃ h', sF 9 h (z.2.2.2 bX) 0 (.int x) = some h' ∧ Rp G (uI z 0 1 0 x) h' := by
  refine ⟨_, sF_of 0 (.int x) (R.at (e_X)) (by simp), R.wR _ (e_X) ?_ (fun l' => d_X)⟩
  rw [e_X (z := uR z 0 1 (u1 (z.1 0 1) 0 x))]
  simp [uR_s, uR_2, u1, List.set] <;> rfl
theorem w_st_0 {G : GE} {z : Zs} {h : PH} (R : Rp G z h) {b : Bool} (x : Int32) : ∃ h', sF 8 h (z.2.2.2 (bst b)) 0 (.int x) = some h' ∧ Rp G (uI z (gm b 0) 0 0 x) h' := by
  refine ⟨_, sF_of 0 (.int x) (R.at (e_st)) (by simp), R.wR _ (e_st) ?_ (fun l' => d_st b)⟩
  rw [e_st (z := uR z (gm b 0) 0 (u1 (z.1 (gm b 0) 0) 0 x))]
  simp [uR_s, uR_2, u1, List.set] <;> rfl
theorem w_st_1 {G : GE} {z : Zs} {h : PH} (R : Rp G z h) {b : Bool} (x : Int32) : ∃ h', sF 8 h (z.2.2.2 (bst b)) 1 (.int x) = some h' ∧ Rp G (uI z (gm b 0) 0 1 x) h' := by
  refine ⟨_, sF_of 1 (.int x) (R.at (e_st)) (by simp), R.wR _ (e_st) ?_ (fun l' => d_st b)⟩
  rw [e_st (z := uR z (gm b 0) 0 (u1 (z.1 (gm b 0) 0) 1 x))]
  simp [uR_s, uR_2, u1, List.set] <;> rfl
theorem w_st_5 {G : GE} {z : Zs} {h : PH} (R : Rp G z h) {b : Bool} (x : Int32) : ∃ h', sF 8 h (z.2.2.2 (bst b)) 5 (.int x) = some h' ∧ Rp G (uI z (gm b 0) 0 5 x) h' := by
  refine ⟨_, sF_of 5 (.int x) (R.at (e_st)) (by simp), R.wR _ (e_st) ?_ (fun l' => d_st b)⟩
  rw [e_st (z := uR z (gm b 0) 0 (u1 (z.1 (gm b 0) 0) 5 x))]
  simp [uR_s, uR_2, u1, List.set] <;> rfl
theorem w_st_7 {G : GE} {z : Zs} {h : PH} (R : Rp G z h) {b : Bool} (x : Int32) : ∃ h', sF 8 h (z.2.2.2 (bst b)) 7 (.int x) = some h' ∧ Rp G (uI z (gm b 0) 0 7 x) h' := by
  refine ⟨_, sF_of 7 (.int x) (R.at (e_st)) (by simp), R.wR _ (e_st) ?_ (fun l' => d_st b)⟩
  rw [e_st (z := uR z (gm b 0) 0 (u1 (z.1 (gm b 0) 0) 7 x))]
  simp [uR_s, uR_2, u1, List.set] <;> rfl
theorem w_st_9 {G : GE} {z : Zs} {h : PH} (R : Rp G z h) {b : Bool} (x : Int32) : ∃ h', sF 8 h (z.2.2.2 (bst b)) 9 (.int x) = some h' ∧ Rp G (uI z (gm b 0) 0 9 x) h' := by
  refine ⟨_, sF_of 9 (.int x) (R.at (e_st)) (by simp), R.wR _ (e_st) ?_ (fun l' => d_st b)⟩
  rw [e_st (z := uR z (gm b 0) 0 (u1 (z.1 (gm b 0) 0) 9 x))]
  simp [uR_s, uR_2, u1, List.set] <;> rfl
theorem w_st_11 {G : GE} {z : Zs} {h : PH} (R : Rp G z h) {b : Bool} (x : Int32) : ∃ h', sF 8 h (z.2.2.2 (bst b)) 11 (.int x) = some h' ∧ Rp G (uI z (gm b 0) 0 11 x) h' := by
  refine ⟨_, sF_of 11 (.int x) (R.at (e_st)) (by simp), R.wR _ (e_st) ?_ (fun l' => d_st b)⟩
  rw [e_st (z := uR z (gm b 0) 0 (u1 (z.1 (gm b 0) 0) 11 x))]
  simp [uR_s, uR_2, u1, List.set] <;> rfl
theorem w_L_0 {G : GE} {z : Zs} {h : PH} (R : Rp G z h) {k : Nat} (hi : k < 5) (x : Int32) : ∃ h', sF 0 h (z.2.2.2 (bL k)) 0 (.int x) = some h' ∧ Rp G (uI z 8 k 0 x) h' := by
  refine ⟨_, sF_of 0 (.int x) (R.at (e_L hi)) (by simp), R.wR _ (e_L hi) ?_ (fun l' => d_L k)⟩
  rw [e_L (z := uR z 8 k (u1 (z.1 8 k) 0 x)) hi]
  simp [uR_s, uR_2, u1, List.set] <;> rfl
theorem w_mo_5 {G : GE} {z : Zs} {h : PH} (R : Rp G z h) {i : Nat} (hi : i < z.2.1 1) (x : Int32) : ∃ h', sF 3 h (z.2.2.2 (bmo i)) 5 (.int x) = some h' ∧ Rp G (uI z 2 i 4 x) h' := by
  refine ⟨_, sF_of 5 (.int x) (R.at (e_mo hi)) (by simp), R.wR _ (e_mo hi) ?_ (fun l' => d_mo i)⟩
  rw [e_mo (z := uR z 2 i (u1 (z.1 2 i) 4 x)) hi]
  simp [uR_s, uR_2, u1, List.set] <;> rfl
theorem w_mo_6 {G : GE} {z : Zs} {h : PH} (R : Rp G z h) {i : Nat} (hi : i < z.2.1 1) (x : Int32) : ∃ h', sF 3 h (z.2.2.2 (bmo i)) 6 (.int x) = some h' ∧ Rp G (uI z 2 i 5 x) h' := by
  refine ⟨_, sF_of 6 (.int x) (R.at (e_mo hi)) (by simp), R.wR _ (e_mo hi) ?_ (fun l' => d_mo i)⟩
  rw [e_mo (z := uR z 2 i (u1 (z.1 2 i) 5 x)) hi]
  simp [uR_s, uR_2, u1, List.set] <;> rfl
theorem w_vn_1 {G : GE} {z : Zs} {h : PH} (R : Rp G z h) {b : Bool} {i : Nat} (hi : i < z.2.1 (nv b)) (x : Int32) : ∃ h', sF 5 h (z.2.2.2 (bvn b i)) 1 (.int x) = some h' ∧ Rp G (uI z (gv b) i 4 x) h' := by
  refine ⟨_, sF_of 1 (.int x) (R.at (e_vn hi)) (by simp), R.wR _ (e_vn hi) ?_ (fun l' => d_vn b i)⟩
  rw [e_vn (z := uR z (gv b) i (u1 (z.1 (gv b) i) 4 x)) hi]
  simp [uR_s, uR_2, u1, List.set] <;> rfl
theorem w_vn_2 {G : GE} {z : Zs} {h : PH} (R : Rp G z h) {b : Bool} {i : Nat} (hi : i < z.2.1 (nv b)) (x : Int32) : ∃ h', sF 5 h (z.2.2.2 (bvn b i)) 2 (.int x) = some h' ∧ Rp G (uI z (gv b) i 5 x) h' := by
  refine ⟨_, sF_of 2 (.int x) (R.at (e_vn hi)) (by simp), R.wR _ (e_vn hi) ?_ (fun l' => d_vn b i)⟩
  rw [e_vn (z := uR z (gv b) i (u1 (z.1 (gv b) i) 5 x)) hi]
  simp [uR_s, uR_2, u1, List.set] <;> rfl
theorem w_vn_3 {G : GE} {z : Zs} {h : PH} (R : Rp G z h) {b : Bool} {i : Nat} (hi : i < z.2.1 (nv b)) (x : Int32) : ∃ h', sF 5 h (z.2.2.2 (bvn b i)) 3 (.int x) = some h' ∧ Rp G (uI z (gv b) i 6 x) h' := by
  refine ⟨_, sF_of 3 (.int x) (R.at (e_vn hi)) (by simp), R.wR _ (e_vn hi) ?_ (fun l' => d_vn b i)⟩
  rw [e_vn (z := uR z (gv b) i (u1 (z.1 (gv b) i) 6 x)) hi]
  simp [uR_s, uR_2, u1, List.set] <;> rfl
theorem w_vn_4 {G : GE} {z : Zs} {h : PH} (R : Rp G z h) {b : Bool} {i : Nat} (hi : i < z.2.1 (nv b)) (x : Int32) : ∃ h', sF 5 h (z.2.2.2 (bvn b i)) 4 (.int x) = some h' ∧ Rp G (uI z (gv b) i 7 x) h' := by
  refine ⟨_, sF_of 4 (.int x) (R.at (e_vn hi)) (by simp), R.wR _ (e_vn hi) ?_ (fun l' => d_vn b i)⟩
  rw [e_vn (z := uR z (gv b) i (u1 (z.1 (gv b) i) 7 x)) hi]
  simp [uR_s, uR_2, u1, List.set] <;> rfl
theorem w_vn_5 {G : GE} {z : Zs} {h : PH} (R : Rp G z h) {b : Bool} {i : Nat} (hi : i < z.2.1 (nv b)) (x : Int32) : ∃ h', sF 5 h (z.2.2.2 (bvn b i)) 5 (.int x) = some h' ∧ Rp G (uI z (gv b) i 8 x) h' := by
  refine ⟨_, sF_of 5 (.int x) (R.at (e_vn hi)) (by simp), R.wR _ (e_vn hi) ?_ (fun l' => d_vn b i)⟩
  rw [e_vn (z := uR z (gv b) i (u1 (z.1 (gv b) i) 8 x)) hi]
  simp [uR_s, uR_2, u1, List.set] <;> rfl
theorem w_vn_6 {G : GE} {z : Zs} {h : PH} (R : Rp G z h) {b : Bool} {i : Nat} (hi : i < z.2.1 (nv b)) (x : Int32) : ∃ h', sF 5 h (z.2.2.2 (bvn b i)) 6 (.int x) = some h' ∧ Rp G (uI z (gv b) i 9 x) h' := by
  refine ⟨_, sF_of 6 (.int x) (R.at (e_vn hi)) (by simp), R.wR _ (e_vn hi) ?_ (fun l' => d_vn b i)⟩
  rw [e_vn (z := uR z (gv b) i (u1 (z.1 (gv b) i) 9 x)) hi]
  simp [uR_s, uR_2, u1, List.set] <;> rfl
/-- one cell of an array -/
theorem aI_of {h : PH} {q j n : Nat} {f : Nat → Int32} (hq : h.2 q = some (.inl (0, n, .inl f))) (hj : j < n) (hn : n < 2 ^ 31) : aI h q (nI j) = some (f j) := by
  simp [aI, hq, nI_clamp (Nat.lt_trans hj hn), nI_pos (Nat.lt_trans hj hn), hj]
theorem aZ_of {h : PH} {q j n : Nat} {f : Nat → Int32} (hq : h.2 q = some (.inl (2, n, .inl f))) (hj : j < n) (hn : n < 2 ^ 31) : aZ h q (nI j) = some (f j) := by
  simp [aZ, hq, nI_clamp (Nat.lt_trans hj hn), nI_pos (Nat.lt_trans hj hn), hj]
theorem aR_of {h : PH} {q j n r : Nat} {f : Nat → Option Nat} (hq : h.2 q = some (.inl (1, n, .inr (.inr (.inr (.inr f)))))) (hj : j < n) (hn : n < 2 ^ 31) (hf : f j = some r) : aR h q (nI j) = some r := by
  simp [aR, hq, nI_clamp (Nat.lt_trans hj hn), nI_pos (Nat.lt_trans hj hn), hj, hf]
theorem aIs_of {h : PH} {q j n : Nat} {f : Nat → Int32} (x : Int32) (hq : h.2 q = some (.inl (0, n, .inl f))) (hj : j < n) (hn : n < 2 ^ 31) : aIs h q (nI j) x = some (h.1, va_up h.2 q (some (.inl (0, n, .inl (upd f j x))))) := by
  simp [aIs, hq, nI_clamp (Nat.lt_trans hj hn), nI_pos (Nat.lt_trans hj hn), hj]
theorem aZs_of {h : PH} {q j n : Nat} {f : Nat → Int32} {x : Int32} (hx : x = 0 ∨ x = 1) (hq : h.2 q = some (.inl (2, n, .inl f))) (hj : j < n) (hn : n < 2 ^ 31) : aZs h q (nI j) x = some (h.1, va_up h.2 q (some (.inl (2, n, .inl (upd f j x))))) := by
  simp [aZs, hq, nI_clamp (Nat.lt_trans hj hn), nI_pos (Nat.lt_trans hj hn), hj, hx]
theorem aRs_of {h : PH} {q j n : Nat} {f : Nat → Option Nat} (r : Option Nat) (hq : h.2 q = some (.inl (1, n, .inr (.inr (.inr (.inr f)))))) (hj : j < n) (hn : n < 2 ^ 31) : aRs h q (nI j) r = some (h.1, va_up h.2 q (some (.inl (1, n, .inr (.inr (.inr (.inr (va_up f j r)))))))) := by
  simp [aRs, hq, nI_clamp (Nat.lt_trans hj hn), nI_pos (Nat.lt_trans hj hn), hj]
theorem fl_at (d : Nat) (f : Nat → Nat → Int32) (i k : Nat) (hk : k < d) : fl d f (d * i + k) = f i k := by
  unfold fl
  have h1 : (d * i + k) / d = i := by rw [Nat.mul_add_div (by omega), Nat.div_eq_of_lt hk, Nat.add_zero]
  have h2 : (d * i + k) % d = k := by rw [Nat.mul_add_mod, Nat.mod_eq_of_lt hk]
  rw [h1, h2]
theorem fl_up (d : Nat) (f : Nat → Nat → Int32) (i k : Nat) (x : Int32) (hk : k < d) : upd (fl d f) (d * i + k) x = fl d (u1 f i (u1 (f i) k x)) := by
  funext j
  unfold upd fl u1
  by_cases e : j = d * i + k
  · have h1 : (d * i + k) / d = i := by rw [Nat.mul_add_div (by omega), Nat.div_eq_of_lt hk, Nat.add_zero]
    have h2 : (d * i + k) % d = k := by rw [Nat.mul_add_mod, Nat.mod_eq_of_lt hk]
    rw [if_pos e, e, h1, h2, if_pos rfl, if_pos rfl]
  · rw [if_neg e]
    by_cases e1 : j / d = i
    · rw [if_pos e1]
      have e2 : ¬ j % d = k := fun e2 => e (by rw [← e1, ← e2, Nat.div_add_mod])
      rw [if_neg e2, ← e1]
    · rw [if_neg e1]
theorem nI_ix (d i k : Nat) : nI d * nI i + nI k = nI (d * i + k) := by rw [pk_mul, nI_add]
theorem e_s3 {G : GE} {z : Zs} {b : Bool} : ct G z (bsa b 3) = some (.inl (0, 160, .inl (fl 10 (z.1 (gm b 2))))) := rfl
theorem r_s3 {G : GE} {z : Zs} {h : PH} (R : Rp G z h) (b : Bool) {i k : Nat} (hk : k < 10) (hi : i < 16) : aI h (z.2.2.2 (bsa b 3)) (nI (10 * i + k)) = some (z.1 (gm b 2) i k) := by
  rw [aI_of (R.at e_s3) (by omega) (by decide), fl_at _ _ _ _ hk]
theorem w_s3 {G : GE} {z : Zs} {h : PH} (R : Rp G z h) (b : Bool) {i k : Nat} (hk : k < 10) (hi : i < 16) (x : Int32) : ∃ h', aIs h (z.2.2.2 (bsa b 3)) (nI (10 * i + k)) x = some h' ∧ Rp G (uI z (gm b 2) i k x) h' := by
  refine ⟨_, aIs_of x (R.at e_s3) (by omega) (by decide), R.wR _ e_s3 ?_ (fun l' => d_s3 b i)⟩
  rw [e_s3, fl_up _ _ _ _ _ hk, uR, uG_s]
theorem e_s4 {G : GE} {z : Zs} {b : Bool} : ct G z (bsa b 4) = some (.inl (0, 72, .inl (fl 6 (z.1 (gm b 3))))) := rfl
theorem r_s4 {G : GE} {z : Zs} {h : PH} (R : Rp G z h) (b : Bool) {i k : Nat} (hk : k < 6) (hi : i < 12) : aI h (z.2.2.2 (bsa b 4)) (nI (6 * i + k)) = some (z.1 (gm b 3) i k) := by
  rw [aI_of (R.at e_s4) (by omega) (by decide), fl_at _ _ _ _ hk]
theorem w_s4 {G : GE} {z : Zs} {h : PH} (R : Rp G z h) (b : Bool) {i k : Nat} (hk : k < 6) (hi : i < 12) (x : Int32) : ∃ h', aIs h (z.2.2.2 (bsa b 4)) (nI (6 * i + k)) x = some h' ∧ Rp G (uI z (gm b 3) i k x) h' := by
  refine ⟨_, aIs_of x (R.at e_s4) (by omega) (by decide), R.wR _ e_s4 ?_ (fun l' => d_s4 b i)⟩
  rw [e_s4, fl_up _ _ _ _ _ hk, uR, uG_s]
theorem e_s5 {G : GE} {z : Zs} {b : Bool} : ct G z (bsa b 5) = some (.inl (0, 40, .inl (fl 2 (z.1 (gm b 4))))) := rfl
theorem r_s5 {G : GE} {z : Zs} {h : PH} (R : Rp G z h) (b : Bool) {i k : Nat} (hk : k < 2) (hi : i < 20) : aI h (z.2.2.2 (bsa b 5)) (nI (2 * i + k)) = some (z.1 (gm b 4) i k) := by
  rw [aI_of (R.at e_s5) (by omega) (by decide), fl_at _ _ _ _ hk]
theorem w_s5 {G : GE} {z : Zs} {h : PH} (R : Rp G z h) (b : Bool) {i k : Nat} (hk : k < 2) (hi : i < 20) (x : Int32) : ∃ h', aIs h (z.2.2.2 (bsa b 5)) (nI (2 * i + k)) x = some h' ∧ Rp G (uI z (gm b 4) i k x) h' := by
  refine ⟨_, aIs_of x (R.at e_s5) (by omega) (by decide), R.wR _ e_s5 ?_ (fun l' => d_s5 b i)⟩
  rw [e_s5, fl_up _ _ _ _ _ hk, uR, uG_s]
theorem e_s0 {G : GE} {z : Zs} {b : Bool} : ct G z (bsa b 0) = some (.inl (0, 24, .inl (z.1 (gm b 1) 0))) := rfl
theorem e_s1 {G : GE} {z : Zs} {b : Bool} : ct G z (bsa b 1) = some (.inl (0, 24, .inl (z.1 (gm b 1) 1))) := rfl
theorem e_s2 {G : GE} {z : Zs} {b : Bool} : ct G z (bsa b 2) = some (.inl (2, 24, .inl (z.1 (gm b 1) 2))) := rfl
theorem r_s0 {G : GE} {z : Zs} {h : PH} (R : Rp G z h) (b : Bool) {i : Nat} (hi : i < 24) : aI h (z.2.2.2 (bsa b 0)) (nI i) = some (z.1 (gm b 1) 0 i) := aI_of (R.at e_s0) hi (by decide)
theorem r_s1 {G : GE} {z : Zs} {h : PH} (R : Rp G z h) (b : Bool) {i : Nat} (hi : i < 24) : aI h (z.2.2.2 (bsa b 1)) (nI i) = some (z.1 (gm b 1) 1 i) := aI_of (R.at e_s1) hi (by decide)
theorem r_s2 {G : GE} {z : Zs} {h : PH} (R : Rp G z h) (b : Bool) {i : Nat} (hi : i < 24) : aZ h (z.2.2.2 (bsa b 2)) (nI i) = some (z.1 (gm b 1) 2 i) := aZ_of (R.at e_s2) hi (by decide)
theorem upd_u1 (f : Nat → Int32) (k : Nat) (x : Int32) : upd f k x = u1 f k x := rfl
theorem w_s0 {G : GE} {z : Zs} {h : PH} (R : Rp G z h) (b : Bool) {i : Nat} (hi : i < 24) (x : Int32) : ∃ h', aIs h (z.2.2.2 (bsa b 0)) (nI i) x = some h' ∧ Rp G (uI z (gm b 1) 0 i x) h' := by
  refine ⟨_, aIs_of x (R.at e_s0) hi (by decide), R.wR _ e_s0 ?_ (fun l' => d_sw b 0 (by decide))⟩
  rw [e_s0, uR_s, upd_u1]
theorem w_s1 {G : GE} {z : Zs} {h : PH} (R : Rp G z h) (b : Bool) {i : Nat} (hi : i < 24) (x : Int32) : ∃ h', aIs h (z.2.2.2 (bsa b 1)) (nI i) x = some h' ∧ Rp G (uI z (gm b 1) 1 i x) h' := by
  refine ⟨_, aIs_of x (R.at e_s1) hi (by decide), R.wR _ e_s1 ?_ (fun l' => d_sw b 1 (by decide))⟩
  rw [e_s1, uR_s, upd_u1]
theorem w_s2 {G : GE} {z : Zs} {h : PH} (R : Rp G z h) (b : Bool) {i : Nat} (hi : i < 24) {x : Int32} (hx : x = 0 ∨ x = 1) : ∃ h', aZs h (z.2.2.2 (bsa b 2)) (nI i) x = some h' ∧ Rp G (uI z (gm b 1) 2 i x) h' := by
  refine ⟨_, aZs_of hx (R.at e_s2) hi (by decide), R.wR _ e_s2 ?_ (fun l' => d_sw b 2 (by decide))⟩
  rw [e_s2, uR_s, upd_u1]
theorem e_ho {G : GE} {z : Zs} {i : Nat} (hi : i < z.2.1 3) : ct G z (bho i) = some (.inl (0, 8, .inl (z.1 5 i))) := by simp [ct, hi]
theorem r_ho {G : GE} {z : Zs} {h : PH} (R : Rp G z h) {i j : Nat} (hi : i < z.2.1 3) (hj : j < 8) : aI h (z.2.2.2 (bho i)) (nI j) = some (z.1 5 i j) := aI_of (R.at (e_ho hi)) hj (by decide)
theorem w_ho {G : GE} {z : Zs} {h : PH} (R : Rp G z h) {i j : Nat} (hi : i < z.2.1 3) (hj : j < 8) (x : Int32) : ∃ h', aIs h (z.2.2.2 (bho i)) (nI j) x = some h' ∧ Rp G (uI z 5 i j x) h' := by
  refine ⟨_, aIs_of x (R.at (e_ho hi)) hj (by decide), R.wR _ (e_ho hi) ?_ (fun l' => d_ho i)⟩
  rw [e_ho (z := uR z 5 i (u1 (z.1 5 i) j x)) hi, uR_s, upd_u1]
theorem aLen_of {G : GE} {h : PH} {q k n : Nat} {f : (Nat → Int32) ⊕ (Nat → Int64) ⊕ (Nat → UInt32) ⊕ (Nat → UInt64) ⊕ (Nat → Option Nat)} (hq : h.2 q = some (.inl (k, n, f))) (hk : k < 4) (hd : ¬ q = gDE G) : aLen G h q = some (nI n) := by
  simp [aLen, hq, hk, hd]
theorem s_of_0 {G : GE} {z : Zs} {h : PH} (R : Rp G z h) {b : Bool} {v : Nat} (hv : v < 16) : f_X7_of G (z.2.2.2 (bst b)) (nI v) (0 : Int32) h = some (z.1 (gm b 2) v 0, h) := by
  rw [f_X7_of, g_st_6 R, rd_s, show ((10 : Int32) * nI v + 0) = nI (10 * v + 0) from nI_ix 10 v 0, r_s3 R b (by decide) hv, rd_s]
theorem s_of_1 {G : GE} {z : Zs} {h : PH} (R : Rp G z h) {b : Bool} {v : Nat} (hv : v < 16) : f_X7_of G (z.2.2.2 (bst b)) (nI v) (1 : Int32) h = some (z.1 (gm b 2) v 1, h) := by
  rw [f_X7_of, g_st_6 R, rd_s, show ((10 : Int32) * nI v + 1) = nI (10 * v + 1) from nI_ix 10 v 1, r_s3 R b (by decide) hv, rd_s]
theorem s_of_2 {G : GE} {z : Zs} {h : PH} (R : Rp G z h) {b : Bool} {v : Nat} (hv : v < 16) : f_X7_of G (z.2.2.2 (bst b)) (nI v) (2 : Int32) h = some (z.1 (gm b 2) v 2, h) := by
  rw [f_X7_of, g_st_6 R, rd_s, show ((10 : Int32) * nI v + 2) = nI (10 * v + 2) from nI_ix 10 v 2, r_s3 R b (by decide) hv, rd_s]
theorem s_of_3 {G : GE} {z : Zs} {h : PH} (R : Rp G z h) {b : Bool} {v : Nat} (hv : v < 16) : f_X7_of G (z.2.2.2 (bst b)) (nI v) (3 : Int32) h = some (z.1 (gm b 2) v 3, h) := by
  rw [f_X7_of, g_st_6 R, rd_s, show ((10 : Int32) * nI v + 3) = nI (10 * v + 3) from nI_ix 10 v 3, r_s3 R b (by decide) hv, rd_s]
theorem s_of_4 {G : GE} {z : Zs} {h : PH} (R : Rp G z h) {b : Bool} {v : Nat} (hv : v < 16) : f_X7_of G (z.2.2.2 (bst b)) (nI v) (4 : Int32) h = some (z.1 (gm b 2) v 4, h) := by
  rw [f_X7_of, g_st_6 R, rd_s, show ((10 : Int32) * nI v + 4) = nI (10 * v + 4) from nI_ix 10 v 4, r_s3 R b (by decide) hv, rd_s]
theorem s_of_5 {G : GE} {z : Zs} {h : PH} (R : Rp G z h) {b : Bool} {v : Nat} (hv : v < 16) : f_X7_of G (z.2.2.2 (bst b)) (nI v) (5 : Int32) h = some (z.1 (gm b 2) v 5, h) := by
  rw [f_X7_of, g_st_6 R, rd_s, show ((10 : Int32) * nI v + 5) = nI (10 * v + 5) from nI_ix 10 v 5, r_s3 R b (by decide) hv, rd_s]
theorem s_of_6 {G : GE} {z : Zs} {h : PH} (R : Rp G z h) {b : Bool} {v : Nat} (hv : v < 16) : f_X7_of G (z.2.2.2 (bst b)) (nI v) (6 : Int32) h = some (z.1 (gm b 2) v 6, h) := by
  rw [f_X7_of, g_st_6 R, rd_s, show ((10 : Int32) * nI v + 6) = nI (10 * v + 6) from nI_ix 10 v 6, r_s3 R b (by decide) hv, rd_s]
theorem s_of_7 {G : GE} {z : Zs} {h : PH} (R : Rp G z h) {b : Bool} {v : Nat} (hv : v < 16) : f_X7_of G (z.2.2.2 (bst b)) (nI v) (7 : Int32) h = some (z.1 (gm b 2) v 7, h) := by
  rw [f_X7_of, g_st_6 R, rd_s, show ((10 : Int32) * nI v + 7) = nI (10 * v + 7) from nI_ix 10 v 7, r_s3 R b (by decide) hv, rd_s]
theorem s_of_8 {G : GE} {z : Zs} {h : PH} (R : Rp G z h) {b : Bool} {v : Nat} (hv : v < 16) : f_X7_of G (z.2.2.2 (bst b)) (nI v) (8 : Int32) h = some (z.1 (gm b 2) v 8, h) := by
  rw [f_X7_of, g_st_6 R, rd_s, show ((10 : Int32) * nI v + 8) = nI (10 * v + 8) from nI_ix 10 v 8, r_s3 R b (by decide) hv, rd_s]
theorem s_of_9 {G : GE} {z : Zs} {h : PH} (R : Rp G z h) {b : Bool} {v : Nat} (hv : v < 16) : f_X7_of G (z.2.2.2 (bst b)) (nI v) (9 : Int32) h = some (z.1 (gm b 2) v 9, h) := by
  rw [f_X7_of, g_st_6 R, rd_s, show ((10 : Int32) * nI v + 9) = nI (10 * v + 9) from nI_ix 10 v 9, r_s3 R b (by decide) hv, rd_s]
theorem s_set_4 {G : GE} {z : Zs} {h : PH} (R : Rp G z h) {b : Bool} {v : Nat} (hv : v < 16) (x : Int32) : ∃ h', f_X7_set G (z.2.2.2 (bst b)) (nI v) (4 : Int32) x h = some ((), h') ∧ Rp G (uI z (gm b 2) v 4 x) h' := by
  obtain ⟨h', e, R'⟩ := w_s3 R b (i := v) (k := 4) (by decide) hv x
  refine ⟨h', ?_, R'⟩
  rw [f_X7_set, g_st_6 R, rd_s, show ((10 : Int32) * nI v + 4) = nI (10 * v + 4) from nI_ix 10 v 4, e, rd_s]
theorem s_set_5 {G : GE} {z : Zs} {h : PH} (R : Rp G z h) {b : Bool} {v : Nat} (hv : v < 16) (x : Int32) : ∃ h', f_X7_set G (z.2.2.2 (bst b)) (nI v) (5 : Int32) x h = some ((), h') ∧ Rp G (uI z (gm b 2) v 5 x) h' := by
  obtain ⟨h', e, R'⟩ := w_s3 R b (i := v) (k := 5) (by decide) hv x
  refine ⟨h', ?_, R'⟩
  rw [f_X7_set, g_st_6 R, rd_s, show ((10 : Int32) * nI v + 5) = nI (10 * v + 5) from nI_ix 10 v 5, e, rd_s]
theorem s_set_6 {G : GE} {z : Zs} {h : PH} (R : Rp G z h) {b : Bool} {v : Nat} (hv : v < 16) (x : Int32) : ∃ h', f_X7_set G (z.2.2.2 (bst b)) (nI v) (6 : Int32) x h = some ((), h') ∧ Rp G (uI z (gm b 2) v 6 x) h' := by
  obtain ⟨h', e, R'⟩ := w_s3 R b (i := v) (k := 6) (by decide) hv x
  refine ⟨h', ?_, R'⟩
  rw [f_X7_set, g_st_6 R, rd_s, show ((10 : Int32) * nI v + 6) = nI (10 * v + 6) from nI_ix 10 v 6, e, rd_s]
theorem s_set_7 {G : GE} {z : Zs} {h : PH} (R : Rp G z h) {b : Bool} {v : Nat} (hv : v < 16) (x : Int32) : ∃ h', f_X7_set G (z.2.2.2 (bst b)) (nI v) (7 : Int32) x h = some ((), h') ∧ Rp G (uI z (gm b 2) v 7 x) h' := by
  obtain ⟨h', e, R'⟩ := w_s3 R b (i := v) (k := 7) (by decide) hv x
  refine ⟨h', ?_, R'⟩
  rw [f_X7_set, g_st_6 R, rd_s, show ((10 : Int32) * nI v + 7) = nI (10 * v + 7) from nI_ix 10 v 7, e, rd_s]
theorem s_set_8 {G : GE} {z : Zs} {h : PH} (R : Rp G z h) {b : Bool} {v : Nat} (hv : v < 16) (x : Int32) : ∃ h', f_X7_set G (z.2.2.2 (bst b)) (nI v) (8 : Int32) x h = some ((), h') ∧ Rp G (uI z (gm b 2) v 8 x) h' := by
  obtain ⟨h', e, R'⟩ := w_s3 R b (i := v) (k := 8) (by decide) hv x
  refine ⟨h', ?_, R'⟩
  rw [f_X7_set, g_st_6 R, rd_s, show ((10 : Int32) * nI v + 8) = nI (10 * v + 8) from nI_ix 10 v 8, e, rd_s]
theorem s_set_9 {G : GE} {z : Zs} {h : PH} (R : Rp G z h) {b : Bool} {v : Nat} (hv : v < 16) (x : Int32) : ∃ h', f_X7_set G (z.2.2.2 (bst b)) (nI v) (9 : Int32) x h = some ((), h') ∧ Rp G (uI z (gm b 2) v 9 x) h' := by
  obtain ⟨h', e, R'⟩ := w_s3 R b (i := v) (k := 9) (by decide) hv x
  refine ⟨h', ?_, R'⟩
  rw [f_X7_set, g_st_6 R, rd_s, show ((10 : Int32) * nI v + 9) = nI (10 * v + 9) from nI_ix 10 v 9, e, rd_s]
