/-! ===== setUp ===== -/
theorem nwE_u {z : Zs} {g c i : Nat} {l : Lb} {r : Nat → Int32} {q : Nat} : (nwE z g c i l r q).1 g = u1 (z.1 g) i r := uG_s z g _
def mH (f : Nat → Nat → Int32) (x y : Int32) : Nat → Nat → Int32
  | 0, _ => 0
  | d + 1, k => if f k 0 = x ∧ f k 1 = y then 1 else mH f x y d (k + 1)
theorem kH_eq {z : Zs} {n : Nat} (x y : Int32) (h : ∀ j k, j < n → k < 4 → z.1 4 j k = z.1 12 j k) : ∀ d k, k + d ≤ n → kHas z x y d k = mH (z.1 12) x y d k := by
  intro d
  induction d with
  | zero => intro k _; rfl
  | succ d ih =>
    intro k hk
    rw [kHas, mH, h k 0 (by omega) (by decide), h k 1 (by omega) (by decide), ih (k + 1) (by omega)]
theorem sl_mfree {G : GE} {z : Zs} {h : PH} (R : Rp G z h) {n : Nat} (hn : z.1 10 0 5 = nI n) (h16 : n ≤ 16) (a0 a1 a2 a3 a4 a5 : Int32) : ∀ d k fuel x7, k + d = n → d < fuel → (x7 = 0 ∨ x7 = 1) → f_X8_setUp_b96 G fuel (z.2.2.2 bX) a0 a1 a2 a3 a4 a5 x7 (nI k) h = f_X8_setUp_b96 G (fuel - d) (z.2.2.2 bX) a0 a1 a2 a3 a4 a5 (if x7 = 0 then 0 else if mH (z.1 12) a0 a1 d k = 0 then 1 else 0) (nI n) h := by
  have s5 : gI 8 h (z.2.2.2 (bst false)) 5 = some (nI n) := by rw [← hn]; exact g_st_5 R
  intro d
  induction d with
  | zero =>
    intro k fuel x7 hk hf hx
    obtain rfl : k = n := by omega
    rw [Nat.sub_zero, mH]
    rcases hx with rfl | rfl <;> rfl
  | succ d ih =>
    intro k fuel x7 hk hf hx
    obtain ⟨fuel, rfl⟩ : ∃ q, fuel = q + 1 := ⟨fuel - 1, by omega⟩
    have hkn : k < n := by omega
    have i0 := ih (k + 1) fuel 0 (by omega) (by omega) (Or.inl rfl)
    have i1 := ih (k + 1) fuel 1 (by omega) (by omega) (Or.inr rfl)
    rw [if_pos rfl] at i0
    rw [if_neg ne10] at i1
    rw [Nat.add_sub_add_right]
    have q0 : f_X7_of G (z.2.2.2 (bst false)) (nI k) (0 : Int32) h = some (z.1 12 k 0, h) := s_of_0 R (show k < 16 by omega)
    have q1 : f_X7_of G (z.2.2.2 (bst false)) (nI k) (1 : Int32) h = some (z.1 12 k 1, h) := s_of_1 R (show k < 16 by omega)
    show f_X8_setUp_b96_body G (f_X8_setUp_b96 G fuel) (z.2.2.2 bX) a0 a1 a2 a3 a4 a5 x7 (nI k) h = _
    rcases hx with rfl | rfl
    · simp only [f_X8_setUp_b96_body, g_X_1 R, rd_s, s5, if_neg (nI_ge hkn (show n < 2 ^ 31 by omega)), if_true, f_X8_setUp_b145, f_X8_setUp_b146, nI_1, i0]
    · by_cases c0 : z.1 12 k 0 = a0
      · by_cases c1 : z.1 12 k 1 = a1
        · simp only [f_X8_setUp_b96_body, g_X_1 R, rd_s, s5, if_neg (nI_ge hkn (show n < 2 ^ 31 by omega)), if_neg ne10, c_ost R, q0, bd_s, if_pos c0, q1, if_pos c1, f_X8_setUp_b145, f_X8_setUp_b146, nI_1, i0, mH, if_pos (And.intro c0 c1)]
        · simp only [f_X8_setUp_b96_body, g_X_1 R, rd_s, s5, if_neg (nI_ge hkn (show n < 2 ^ 31 by omega)), if_neg ne10, c_ost R, q0, bd_s, if_pos c0, q1, if_neg c1, f_X8_setUp_b141, f_X8_setUp_b146, nI_1, i1, mH, if_neg (show ¬ (z.1 12 k 0 = a0 ∧ z.1 12 k 1 = a1) from fun q => c1 q.2)]
      · simp only [f_X8_setUp_b96_body, g_X_1 R, rd_s, s5, if_neg (nI_ge hkn (show n < 2 ^ 31 by omega)), if_neg ne10, c_ost R, q0, bd_s, if_neg c0, f_X8_setUp_b141, f_X8_setUp_b146, nI_1, i1, mH, if_neg (show ¬ (z.1 12 k 0 = a0 ∧ z.1 12 k 1 = a1) from fun q => c0 q.1)]
set_option maxHeartbeats 4000000 in
theorem s_mset_end {G : GE} {z : Zs} {h1 : PH} (R1 : Rp G z h1) {n : Nat} (hn : z.1 10 0 5 = nI n) (h16 : n < 16) (a b c d e f : Int32) (F : Nat) : ∃ h', f_X8_setUp_b96 G (F + 1) (z.2.2.2 bX) a b c d e f 1 (nI n) h1 = some (nI n, h') ∧ Rp G (uI (uR z 12 n (rV a b c d e f)) 10 0 5 (nI (n + 1))) h' := by
  have s5 : gI 8 h1 (z.2.2.2 (bst false)) 5 = some (nI n) := by rw [← hn]; exact g_st_5 R1
  have gX : ∀ f, gR 9 (Jk h1 10 f) (z.2.2.2 bX) 1 = some (z.2.2.2 (bst false)) := fun f => g_X_1 (R1.jk 10 f)
  have s6 : ∀ f, gR 8 (Jk h1 10 f) (z.2.2.2 (bst false)) 6 = some (z.2.2.2 (bsa false 3)) := fun f => g_st_6 (R1.jk 10 f)
  have s5' : ∀ f, gI 8 (Jk h1 10 f) (z.2.2.2 (bst false)) 5 = some (nI n) := fun f => by rw [← hn]; exact g_st_5 (R1.jk 10 f)
  have j0 : ∀ f x, aIs (Jk h1 10 f) h1.1 (0 : Int32) x = some (Jk h1 10 (upd f 0 x)) := fun f x => jk_set (i := 0) x (by decide) (by decide)
  have j1 : ∀ f x, aIs (Jk h1 10 f) h1.1 (1 : Int32) x = some (Jk h1 10 (upd f 1 x)) := fun f x => jk_set (i := 1) x (by decide) (by decide)
  have j2 : ∀ f x, aIs (Jk h1 10 f) h1.1 (2 : Int32) x = some (Jk h1 10 (upd f 2 x)) := fun f x => jk_set (i := 2) x (by decide) (by decide)
  have j3 : ∀ f x, aIs (Jk h1 10 f) h1.1 (3 : Int32) x = some (Jk h1 10 (upd f 3 x)) := fun f x => jk_set (i := 3) x (by decide) (by decide)
  have j4 : ∀ f x, aIs (Jk h1 10 f) h1.1 (4 : Int32) x = some (Jk h1 10 (upd f 4 x)) := fun f x => jk_set (i := 4) x (by decide) (by decide)
  have j5 : ∀ f x, aIs (Jk h1 10 f) h1.1 (5 : Int32) x = some (Jk h1 10 (upd f 5 x)) := fun f x => jk_set (i := 5) x (by decide) (by decide)
  have j6 : ∀ f x, aIs (Jk h1 10 f) h1.1 (6 : Int32) x = some (Jk h1 10 (upd f 6 x)) := fun f x => jk_set (i := 6) x (by decide) (by decide)
  have j7 : ∀ f x, aIs (Jk h1 10 f) h1.1 (7 : Int32) x = some (Jk h1 10 (upd f 7 x)) := fun f x => jk_set (i := 7) x (by decide) (by decide)
  have j8 : ∀ f x, aIs (Jk h1 10 f) h1.1 (8 : Int32) x = some (Jk h1 10 (upd f 8 x)) := fun f x => jk_set (i := 8) x (by decide) (by decide)
  have j9 : ∀ f x, aIs (Jk h1 10 f) h1.1 (9 : Int32) x = some (Jk h1 10 (upd f 9 x)) := fun f x => jk_set (i := 9) x (by decide) (by decide)
  obtain ⟨h2, e2, R2⟩ := s_own3 R1 false (i := n) h16 (rV a b c d e f)
  have e2 : cpI 0 (Jk h1 10 (upd (upd (upd (upd (upd (upd (upd (upd (upd (upd (fun _ => 0) 0 a) 1 b) 2 c) 3 d) 4 e) 5 0) 6 f) 7 0) 8 0) 9 0)) h1.1 (0 : Int32) (z.2.2.2 (bsa false 3)) ((10 : Int32) * nI n) (10 : Int32) = some h2 := by rw [show (10 : Int32) * nI n = nI (10 * n) from pk_mul 10 n]; exact e2
  have x3 : gR 9 h2 (z.2.2.2 bX) 1 = some (z.2.2.2 (bst false)) := by have t := g_X_1 R2; exact t
  have y3 : gI 8 h2 (z.2.2.2 (bst false)) 5 = some (nI n) := by rw [← hn]; have t := g_st_5 R2 (b := false); exact t
  obtain ⟨h3, e3, R3⟩ := w_st_5 R2 (b := false) (nI (n + 1))
  have e3 : sF 8 h2 (z.2.2.2 (bst false)) 5 (.int (nI (n + 1))) = some h3 := e3
  have x4 : gR 9 h3 (z.2.2.2 bX) 1 = some (z.2.2.2 (bst false)) := by have t := g_X_1 R3; exact t
  have y4 : gI 8 h3 (z.2.2.2 (bst false)) 5 = some (nI (n + 1)) := by have t := g_st_5 R3 (b := false); exact t
  have hs : nI (n + 1) - (1 : Int32) = nI n := by rw [← nI_1 n, Int32.add_sub_cancel]
  refine ⟨h3, ?_, R3⟩
  show f_X8_setUp_b96_body G (f_X8_setUp_b96 G F) (z.2.2.2 bX) a b c d e f 1 (nI n) h1 = _
  simp only [f_X8_setUp_b96_body, g_X_1 R1, rd_s, s5, if_pos (Int32.le_refl _), if_neg ne10, jk_nw, j0, j1, j2, j3, j4, j5, j6, j7, j8, j9, gX, s6, s5', e2, x3, y3, nI_1, e3, x4, y4, hs]
set_option maxHeartbeats 4000000 in
theorem ls_setUp {G : GE} {x y o : Nat} : LS_setUp G x y o (IV G x y o) := by
  rintro h ⟨z, R, ⟨rfl, rfl, rfl⟩, Gd⟩ a0 a1 a2 a3 a4 a5
  have Gd' := Gd
  obtain ⟨n, W, H0, ne, S, g1, g2, g3, g4, g5, g6, g7, g8, g9⟩ := Gd
  have H := S.2.1
  have C := H.1
  have M := S.2.2.2.1
  have h16 := (C.t false).2.2.2
  have h12 := C.2.2.2.2.1
  have hn : z.1 10 0 5 = nI n := M.1
  have hw := H.wi H0
  have h31 : H0 < 2 ^ 31 := by omega
  by_cases c0 : isW 0 11 a0
  rotate_left
  · refine both_no R Gd' (E := "java/lang/IllegalArgumentException") 1 ?_ (by decide) (by decide) (fun h2 h3 h4 e3 R3 i9 e4 => ?_)
    · simp only [f_X6_setUp, bd_s, if_neg ne10, (s_wO c0).1, if_true, f_X6_setUp_b20]
    · simp only [f_X8_setUp, e3, rd_s, bd_s, if_neg ne10, (s_wO c0).2, if_true, f_X8_setUp_b68, i9, e4]
  by_cases c1 : isW 0 11 a1
  rotate_left
  · refine both_no R Gd' (E := "java/lang/IllegalArgumentException") 1 ?_ (by decide) (by decide) (fun h2 h3 h4 e3 R3 i9 e4 => ?_)
    · simp only [f_X6_setUp, bd_s, if_neg ne10, (s_wI c0).1, (s_wO c1).1, if_true, f_X6_setUp_b20]
    · simp only [f_X8_setUp, e3, rd_s, bd_s, if_neg ne10, (s_wI c0).2, (s_wO c1).2, if_true, f_X8_setUp_b68, i9, e4]
  by_cases c2 : isW 1 9 a2
  rotate_left
  · refine both_no R Gd' (E := "java/lang/IllegalArgumentException") 1 ?_ (by decide) (by decide) (fun h2 h3 h4 e3 R3 i9 e4 => ?_)
    · simp only [f_X6_setUp, bd_s, if_neg ne10, (s_wI c0).1, (s_wI c1).1, (s_wO c2).1, if_true, f_X6_setUp_b70]
    · simp only [f_X8_setUp, e3, rd_s, bd_s, if_neg ne10, (s_wI c0).2, (s_wI c1).2, (s_wO c2).2, if_true, f_X8_setUp_b68, i9, e4]
  by_cases c3 : isW 1 9 a3
  rotate_left
  · refine both_no R Gd' (E := "java/lang/IllegalArgumentException") 1 ?_ (by decide) (by decide) (fun h2 h3 h4 e3 R3 i9 e4 => ?_)
    · simp only [f_X6_setUp, bd_s, if_neg ne10, (s_wI c0).1, (s_wI c1).1, (s_wI c2).1, (s_wO c3).1, if_true, f_X6_setUp_b70]
    · simp only [f_X8_setUp, e3, rd_s, bd_s, if_neg ne10, (s_wI c0).2, (s_wI c1).2, (s_wI c2).2, (s_wO c3).2, if_true, f_X8_setUp_b68, i9, e4]
  by_cases c4 : isW 0 9 a4
  rotate_left
  · refine both_no R Gd' (E := "java/lang/IllegalArgumentException") 1 ?_ (by decide) (by decide) (fun h2 h3 h4 e3 R3 i9 e4 => ?_)
    · simp only [f_X6_setUp, bd_s, if_neg ne10, (s_wI c0).1, (s_wI c1).1, (s_wI c2).1, (s_wI c3).1, (s_wO c4).1, if_true, f_X6_setUp_b70]
    · simp only [f_X8_setUp, e3, rd_s, bd_s, if_neg ne10, (s_wI c0).2, (s_wI c1).2, (s_wI c2).2, (s_wI c3).2, (s_wO c4).2, if_true, f_X8_setUp_b68, i9, e4]
  by_cases c5 : isB 16 a5
  rotate_left
  · refine both_no R Gd' (E := "java/lang/IllegalArgumentException") 1 ?_ (by decide) (by decide) (fun h2 h3 h4 e3 R3 i9 e4 => ?_)
    · simp only [f_X6_setUp, bd_s, if_neg ne10, (s_wI c0).1, (s_wI c1).1, (s_wI c2).1, (s_wI c3).1, (s_wI c4).1, (s_dirO c5).1, if_true, f_X6_setUp_b70]
    · simp only [f_X8_setUp, e3, rd_s, bd_s, if_neg ne10, (s_wI c0).2, (s_wI c1).2, (s_wI c2).2, (s_wI c3).2, (s_wI c4).2, (s_dirO c5).2, if_true, f_X8_setUp_b68, i9, e4]
  have kE := kH_eq (z := z) (n := n) a0 a1 (fun j k hj hk => S.1.2.1 j k hj hk) n 0 (by omega)
  have s0 : f_Jx4a65c_size_8abf5 G (z.2.2.2 (bL (lb false))) h = some (nI n, h) := s_szv R (C.t false)
  have hy5 : ∀ {h3 : PH}, Rp G (uI z 0 1 0 0) h3 → gI 8 h3 (z.2.2.2 (bst false)) 5 = some (nI n) := fun R3 => by rw [← hn]; have t := g_st_5 R3 (b := false); exact t
  have hno : (kHas z a0 a1 n 0 = 0 ∧ n = 16) ∨ ¬ kHas z a0 a1 n 0 = 0 → stX G (z.2.2.2 bV) (z.2.2.2 bX) (z.2.2.2 bO) (f_X6_setUp G (z.2.2.2 bV) a0 a1 a2 a3 a4 a5 h) okE_L_setUp cd_L_setUp (fun h => f_X8_setUp G (z.2.2.2 bX) a0 a1 a2 a3 a4 a5 h) h (IV G (z.2.2.2 bV) (z.2.2.2 bX) (z.2.2.2 bO)) := by
    intro hc
    refine both_no R Gd' (E := "java/lang/IllegalStateException") 2 ?_ (by decide) (by decide) (fun h2 h3 h4 e3 R3 i9 e4 => ?_)
    · rcases hc with ⟨hc, hc2⟩ | hc
      · simp only [f_X6_setUp, bd_s, if_neg ne10, (s_wI c0).1, (s_wI c1).1, (s_wI c2).1, (s_wI c3).1, (s_wI c4).1, (s_dirI c5).1, g_V_4 R, rd_s, c_otn R, s_hasOneAt R (C.t false), if_pos hc, g_tn_0 R, c_oL R (lb_lt _), s0, if_neg (show ¬ nI n < (16 : Int32) by rw [hc2]; decide), f_X6_setUp_b107]
      · simp only [f_X6_setUp, bd_s, if_neg ne10, (s_wI c0).1, (s_wI c1).1, (s_wI c2).1, (s_wI c3).1, (s_wI c4).1, (s_dirI c5).1, g_V_4 R, rd_s, c_otn R, s_hasOneAt R (C.t false), if_neg hc, f_X6_setUp_b107]
    · obtain ⟨-, x1, x2, i8, -⟩ : NF z h3 := R3.nf
      have lp0 : ∀ F, f_X8_setUp_b96 G (F + 1) (z.2.2.2 bX) a0 a1 a2 a3 a4 a5 0 (nI n) h3 = some (0, h4) := fun F => by
        show f_X8_setUp_b96_body G (f_X8_setUp_b96 G F) (z.2.2.2 bX) a0 a1 a2 a3 a4 a5 0 (nI n) h3 = _
        simp only [f_X8_setUp_b96_body, x1, rd_s, hy5 R3, if_pos (Int32.le_refl _), if_true, i9, e4, bd_s]
      have lpx : ∀ x7, (x7 = 0 ∨ x7 = 1) → f_X8_setUp_b96 G LF (z.2.2.2 bX) a0 a1 a2 a3 a4 a5 x7 (0 : Int32) h3 = f_X8_setUp_b96 G (LF - n) (z.2.2.2 bX) a0 a1 a2 a3 a4 a5 (if x7 = 0 then 0 else if mH (z.1 12) a0 a1 n 0 = 0 then 1 else 0) (nI n) h3 := fun x7 hx => by
        have t := sl_mfree (z := uI z 0 1 0 0) R3 (n := n) hn h16 a0 a1 a2 a3 a4 a5 n 0 LF x7 (by omega) (by unfold LF; omega) hx
        exact t
      have hLF : LF - n = (99999 - n) + 1 := by unfold LF; omega
      by_cases c16 : (16 : Int32) ≤ nI n
      · have t := lpx 0 (Or.inl rfl)
        rw [if_pos rfl, hLF, lp0] at t
        simp only [f_X8_setUp, e3, rd_s, bd_s, if_neg ne10, (s_wI c0).2, (s_wI c1).2, (s_wI c2).2, (s_wI c3).2, (s_wI c4).2, (s_dirI c5).2, x1, hy5 R3, if_pos c16, f_X8_setUp_b91, t]
      · have hm : ¬ mH (z.1 12) a0 a1 n 0 = 0 := by
          rcases hc with ⟨hc, hc2⟩ | hc
          · exact absurd (show (16 : Int32) ≤ nI n by rw [hc2]; decide) c16
          · rw [← kE]; exact hc
        have t := lpx 1 (Or.inr rfl)
        rw [if_neg ne10, if_neg hm, hLF, lp0] at t
        simp only [f_X8_setUp, e3, rd_s, bd_s, if_neg ne10, (s_wI c0).2, (s_wI c1).2, (s_wI c2).2, (s_wI c3).2, (s_wI c4).2, (s_dirI c5).2, x1, hy5 R3, if_neg c16, f_X8_setUp_b91, t]
  by_cases c6 : kHas z a0 a1 n 0 = 0
  rotate_left
  · exact hno (Or.inr c6)
  by_cases c7 : n < 16
  rotate_left
  · exact hno (Or.inl ⟨c6, by omega⟩)
  have hnLF : n < LF := by unfold LF; omega
  have hsLF : LF - n = (99999 - n) + 1 := by unfold LF; omega
  have hz0 : 0 + n = n := Nat.zero_add n
  have n24 : n < 24 := by omega
  have nn1 : n < n + 1 := Nat.lt_succ_self n
  have nle : n ≤ n + 1 := Nat.le_succ n
  generalize hr : rV a0 a1 a2 a3 a4 a5 = r
  have r0 : r 0 = a0 := by rw [← hr]; rfl
  have r1 : r 1 = a1 := by rw [← hr]; rfl
  have r2 : r 2 = a2 := by rw [← hr]; rfl
  have r3 : r 3 = a3 := by rw [← hr]; rfl
  have r4 : r 4 = a4 := by rw [← hr]; rfl
  have r5 : r 5 = 0 := by rw [← hr]; rfl
  have r6 : r 6 = a5 := by rw [← hr]; rfl
  have r7 : r 7 = 0 := by rw [← hr]; rfl
  have r8 : r 8 = 0 := by rw [← hr]; rfl
  have r9 : r 9 = 0 := by rw [← hr]; rfl
  have T0 := C.t false
  have T1 := C.t true
  have n4 : z.2.1 4 = n := T0.2.1
  have n5 : z.2.1 5 = n := T1.2.1
  have n53 : z.2.1 53 = n := T0.1
  have n54 : z.2.1 54 = n := T1.1
  -- the mast
  have R1 := R.nMs g9 (fun b => by cases b; exact Nat.le_of_eq n4; exact Nat.le_of_eq n5) r
  rw [r0, r1, r2, r3] at R1
  generalize hh1 : FR (FR h (.inr (2, [.int a0, .int a1, .int a2, .int a3, .ref (h.1 + 1)]))) (cI 8) = h1 at R1
  have eM : f_X1_init G h.1 a0 a1 a2 a3 (FR h (.inr (2, [.int 0, .int 0, .int 0, .int 0, .null]))) = some ((), h1) := by rw [init_X1, hh1]
  generalize hZ1 : mS z n r h.1 (h.1 + 1) = Z1 at R1
  have p1 : ∀ l, isE l = false → Z1.2.2.2 l = z.2.2.2 l := fun l hl => by rw [← hZ1]; exact mS_E hl
  have m1 : Z1.2.2.2 (bms n) = h.1 := by rw [← hZ1]; exact mS_m
  have q1 : ∀ c, ¬ c = 3 → Z1.2.1 c = z.2.1 c := fun c hc => by rw [← hZ1]; exact mS_c hc
  have q13 : Z1.2.1 3 = n + 1 := by rw [← hZ1]; rfl
  have v4 : gR 7 h1 (z.2.2.2 bV) 4 = some (z.2.2.2 (btn false)) := by have t := g_V_4 R1; rw [p1 _ rfl, p1 _ rfl] at t; exact t
  have i4 : isC 4 h1 (z.2.2.2 (btn false)) = some () := by have t := c_otn R1 (b := false); rw [p1 _ rfl] at t; exact t
  -- shelter
  have TZ1 : TW Z1 false n := ⟨by rw [show 50 + lb false = 53 from rfl, q1 53 (by decide)]; exact n53, by rw [show nv false = 4 from rfl, q1 4 (by decide)]; exact n4, by rw [q13]; exact nle, h16⟩
  have z15 : Z1.1 5 n = fun _ => 0 := by rw [← hZ1]; exact mS_5s
  obtain ⟨h2, e2, R2⟩ := sl_shelter (G := G) TZ1 (by rw [q13]; exact nn1) n 0 LF h1 hz0 hnLF (by rw [hoG_0 _ _ z15, uG_id]; exact R1)
  have e2 : f_X3_shelter G (z.2.2.2 (btn false)) h.1 h1 = some ((), h2) := by
    rw [p1 _ rfl, m1] at e2
    exact e2
  -- the town's vane
  have R3 := R2.nV_false (i := n) (by show Z1.2.1 53 ≤ n; rw [q1 53 (by decide)]; exact Nat.le_of_eq n53) (by show n ≤ Z1.2.1 4; rw [q1 4 (by decide)]; exact Nat.le_of_eq n4.symm) r
  rw [show (uG Z1 5 (hoG Z1 n n)).2.2.2 (bms n) = h.1 from m1, r4, r5, r6, r7, r8, r9] at R3
  generalize hZ3 : nwE (uG Z1 5 (hoG Z1 n n)) 6 4 n (bvn false n) r h2.1 = Z3 at R3
  have p3 : ∀ l, isE l = false → Z3.2.2.2 l = z.2.2.2 l := fun l hl => by rw [← hZ3, nwE_p (fun e => by rw [e] at hl; cases hl)]; exact p1 l hl
  have q3 : ∀ c, ¬ c = 3 → ¬ c = 4 → Z3.2.1 c = z.2.1 c := fun c hc h4 => by rw [← hZ3, nwE_n h4]; exact q1 c hc
  have q33 : Z3.2.1 3 = n + 1 := by rw [← hZ3, nwE_n (by decide)]; exact q13
  have q34 : Z3.2.1 4 = n + 1 := by rw [← hZ3]; exact nwE_c
  have av3 : Z3.2.2.2 (bvn false n) = h2.1 := by rw [← hZ3]; exact nwE_a
  have m3 : Z3.2.2.2 (bms n) = h.1 := by rw [← hZ3, nwE_p (fun e => by cases e)]; exact m1
  have u2 : gR 7 h2 (z.2.2.2 bV) 4 = some (z.2.2.2 (btn false)) := by have t := g_V_4 R2; rw [show (uG Z1 5 (hoG Z1 n n)).2 = Z1.2 from rfl, p1 _ rfl, p1 _ rfl] at t; exact t
  have u2' : gR 4 h2 (z.2.2.2 (btn false)) 0 = some (z.2.2.2 (bL 3)) := by have t := g_tn_0 R2 (b := false); rw [show (uG Z1 5 (hoG Z1 n n)).2 = Z1.2 from rfl, p1 _ rfl, p1 _ rfl] at t; exact t
  have u3 : isC 0 (FR h2 (.inr (5, [.ref h.1, .int a4, .int 0, .int a5, .int 0, .int 0, .int 0]))) (z.2.2.2 (bL 3)) = some () := by have t := c_oL R3 (k := 3) (by decide); rw [p3 _ rfl] at t; exact t
  obtain ⟨h4, Z4, e4, R4, hLA⟩ := s_add R3 (k := 3) (n := n) (by decide) (by show Z3.2.1 53 = n; rw [q3 53 (by decide) (by decide)]; exact n53) n24 (fun i hi => ⟨5, _, e_vn (b := false) (by show i < Z3.2.1 4; rw [q34]; have hi : i < Z3.2.1 53 := hi; rw [q3 53 (by decide) (by decide), n53] at hi; exact Nat.lt_succ_of_lt hi), by decide⟩) ⟨5, _, e_vn (b := false) (by show n < Z3.2.1 4; rw [q34]; exact nn1), by decide⟩
  have e4 : f_Jx4a65c_add_9ea2d G (z.2.2.2 (bL 3)) h2.1 (FR h2 (.inr (5, [.ref h.1, .int a4, .int 0, .int a5, .int 0, .int 0, .int 0]))) = some (1, h4) := by
    rw [p3 _ rfl, show el 3 n = bvn false n from rfl, av3] at e4
    exact e4
  obtain ⟨N4, ad4, hZ4⟩ := hLA
  have p4 : ∀ l, isE l = false → ¬ l = bA 3 → Z4.2.2.2 l = z.2.2.2 l := fun l hl hA => by rw [hZ4, uL_ad hA]; exact p3 l hl
  have q4 : ∀ c, ¬ c = 3 → ¬ c = 4 → ¬ c = 53 → ¬ c = 63 → Z4.2.1 c = z.2.1 c := fun c h3 h4 h5 h6 => by rw [hZ4, uL_n h5 h6]; exact q3 c h3 h4
  have q43 : Z4.2.1 3 = n + 1 := by rw [hZ4, uL_n (by decide) (by decide)]; exact q33
  have q44 : Z4.2.1 4 = n + 1 := by rw [hZ4, uL_n (by decide) (by decide)]; exact q34
  have q453 : Z4.2.1 53 = n + 1 := by rw [hZ4]; exact uL_l
  have m4 : Z4.2.2.2 (bms n) = h.1 := by rw [hZ4, uL_ad (fun e => by cases e)]; exact m3
  -- the vane ahead
  have R5 := R4.nV_true (i := n) (by rw [q4 54 (by decide) (by decide) (by decide) (by decide)]; exact Nat.le_of_eq n54) (by rw [q4 5 (by decide) (by decide) (by decide) (by decide)]; exact Nat.le_of_eq n5.symm) r
  rw [m4, r4, r5, r6, r7, r8, r9] at R5
  generalize hZ5 : nwE Z4 7 5 n (bvn true n) r h4.1 = Z5 at R5
  have p5 : ∀ l, isE l = false → ¬ l = bA 3 → Z5.2.2.2 l = z.2.2.2 l := fun l hl hA => by rw [← hZ5, nwE_p (fun e => by rw [e] at hl; cases hl)]; exact p4 l hl hA
  have q5 : ∀ c, ¬ c = 3 → ¬ c = 4 → ¬ c = 5 → ¬ c = 53 → ¬ c = 63 → Z5.2.1 c = z.2.1 c := fun c h3 h4 h5 h6 h7 => by rw [← hZ5, nwE_n h5]; exact q4 c h3 h4 h6 h7
  have q53 : Z5.2.1 3 = n + 1 := by rw [← hZ5, nwE_n (by decide)]; exact q43
  have q54 : Z5.2.1 4 = n + 1 := by rw [← hZ5, nwE_n (by decide)]; exact q44
  have q55 : Z5.2.1 5 = n + 1 := by rw [← hZ5]; exact nwE_c
  have q553 : Z5.2.1 53 = n + 1 := by rw [← hZ5, nwE_n (by decide)]; exact q453
  have av5 : Z5.2.2.2 (bvn true n) = h4.1 := by rw [← hZ5]; exact nwE_a
  have w5 : gR 7 h4 (z.2.2.2 bV) 5 = some (z.2.2.2 (btn true)) := by have t := g_V_5 R4; rw [p4 _ rfl (fun e => by cases e), p4 _ rfl (fun e => by cases e)] at t; exact t
  have w5' : gR 4 h4 (z.2.2.2 (btn true)) 0 = some (z.2.2.2 (bL 4)) := by have t := g_tn_0 R4 (b := true); rw [p4 _ rfl (fun e => by cases e), p4 _ rfl (fun e => by cases e)] at t; exact t
  have u5 : isC 0 (FR h4 (.inr (5, [.ref h.1, .int a4, .int 0, .int a5, .int 0, .int 0, .int 0]))) (z.2.2.2 (bL 4)) = some () := by have t := c_oL R5 (k := 4) (by decide); rw [p5 _ rfl (fun e => by cases e)] at t; exact t
  obtain ⟨h6, Z6, e6, R6, hLA⟩ := s_add R5 (k := 4) (n := n) (by decide) (by show Z5.2.1 54 = n; rw [q5 54 (by decide) (by decide) (by decide) (by decide) (by decide)]; exact n54) n24 (fun i hi => ⟨5, _, e_vn (b := true) (by show i < Z5.2.1 5; rw [q55]; have hi : i < Z5.2.1 54 := hi; rw [q5 54 (by decide) (by decide) (by decide) (by decide) (by decide), n54] at hi; exact Nat.lt_succ_of_lt hi), by decide⟩) ⟨5, _, e_vn (b := true) (by show n < Z5.2.1 5; rw [q55]; exact nn1), by decide⟩
  have e6 : f_Jx4a65c_add_9ea2d G (z.2.2.2 (bL 4)) h4.1 (FR h4 (.inr (5, [.ref h.1, .int a4, .int 0, .int a5, .int 0, .int 0, .int 0]))) = some (1, h6) := by
    rw [p5 _ rfl (fun e => by cases e), show el 4 n = bvn true n from rfl, av5] at e6
    exact e6
  obtain ⟨N6, ad6, hZ6⟩ := hLA
  have p6 : ∀ l, isE l = false → ¬ l = bA 3 → ¬ l = bA 4 → Z6.2.2.2 l = z.2.2.2 l := fun l hl hA hB => by rw [hZ6, uL_ad hB]; exact p5 l hl hA
  have q6 : ∀ c, ¬ c = 3 → ¬ c = 4 → ¬ c = 5 → ¬ c = 53 → ¬ c = 54 → ¬ c = 63 → ¬ c = 64 → Z6.2.1 c = z.2.1 c := fun c h3 h4 h5 h6 h7 h8 h9 => by rw [hZ6, uL_n h7 h9]; exact q5 c h3 h4 h5 h6 h8
  have q63 : Z6.2.1 3 = n + 1 := by rw [hZ6, uL_n (by decide) (by decide)]; exact q53
  have q64 : Z6.2.1 4 = n + 1 := by rw [hZ6, uL_n (by decide) (by decide)]; exact q54
  have q65 : Z6.2.1 5 = n + 1 := by rw [hZ6, uL_n (by decide) (by decide)]; exact q55
  have q653 : Z6.2.1 53 = n + 1 := by rw [hZ6, uL_n (by decide) (by decide)]; exact q553
  have q654 : Z6.2.1 54 = n + 1 := by rw [hZ6]; exact uL_l
  have y1 : gR 7 h6 (z.2.2.2 bV) 4 = some (z.2.2.2 (btn false)) := by have t := g_V_4 R6; rw [p6 _ rfl (fun e => by cases e) (fun e => by cases e), p6 _ rfl (fun e => by cases e) (fun e => by cases e)] at t; exact t
  have y2 : gR 4 h6 (z.2.2.2 (btn false)) 0 = some (z.2.2.2 (bL 3)) := by have t := g_tn_0 R6 (b := false); rw [p6 _ rfl (fun e => by cases e) (fun e => by cases e), p6 _ rfl (fun e => by cases e) (fun e => by cases e)] at t; exact t
  have y3 : isC 0 h6 (z.2.2.2 (bL 3)) = some () := by have t := c_oL R6 (k := 3) (by decide); rw [p6 _ rfl (fun e => by cases e) (fun e => by cases e)] at t; exact t
  have y4 : f_Jx4a65c_size_8abf5 G (z.2.2.2 (bL 3)) h6 = some (nI (n + 1), h6) := by have t := s_size R6 (k := 3) (by decide); rw [p6 _ rfl (fun e => by cases e) (fun e => by cases e), show 50 + 3 = 53 from rfl, q653] at t; exact t
  have hs : nI (n + 1) - (1 : Int32) = nI n := by rw [← nI_1 n, Int32.add_sub_cancel]
  have o1 : ∀ g, ¬ g = 4 → ¬ g = 5 → Z1.1 g = z.1 g := fun g k4 k5 => by rw [← hZ1]; exact mS_g k4 k5
  have z14 : Z1.1 4 = u1 (z.1 4) n r := by rw [← hZ1]; rfl
  have o3 : ∀ g, ¬ g = 5 → ¬ g = 6 → Z3.1 g = Z1.1 g := fun g k5 k6 => by rw [← hZ3, nwE_g k6]; exact uG_n _ _ k5
  have z35 : Z3.1 5 = hoG Z1 n n := by rw [← hZ3, nwE_g (by decide)]; exact uG_s _ _ _
  have z36 : Z3.1 6 = u1 (z.1 6) n r := by
    rw [← o1 6 (by decide) (by decide), ← hZ3, nwE_u]
    rfl
  have o4 : ∀ g, ¬ g = 8 → Z4.1 g = Z3.1 g := fun g k8 => by rw [hZ4]; exact uG_n _ _ k8
  have o5 : ∀ g, ¬ g = 7 → Z5.1 g = Z4.1 g := fun g k7 => by rw [← hZ5]; exact nwE_g k7
  have z57 : Z5.1 7 = u1 (Z4.1 7) n r := by rw [← hZ5, nwE_u]
  have o6 : ∀ g, ¬ g = 8 → Z6.1 g = Z5.1 g := fun g k8 => by rw [hZ6]; exact uG_n _ _ k8
  have zo : ∀ g, ¬ g = 4 → ¬ g = 5 → ¬ g = 6 → ¬ g = 7 → ¬ g = 8 → Z6.1 g = z.1 g := fun g k4 k5 k6 k7 k8 => by
    rw [o6 g k8, o5 g k7, o4 g k8, o3 g k5 k6, o1 g k4 k5]
  have z4 : Z6.1 4 = u1 (z.1 4) n r := by rw [o6 4 (by decide), o5 4 (by decide), o4 4 (by decide), o3 4 (by decide) (by decide), z14]
  have z6 : Z6.1 6 = u1 (z.1 6) n r := by rw [o6 6 (by decide), o5 6 (by decide), o4 6 (by decide), z36]
  have z7 : Z6.1 7 = u1 (z.1 7) n r := by rw [o6 7 (by decide), z57, o4 7 (by decide), o3 7 (by decide) (by decide), o1 7 (by decide) (by decide)]
  have z5 : Z6.1 5 = hoG Z1 n n := by rw [o6 5 (by decide), o5 5 (by decide), o4 5 (by decide), z35]
  refine both_ok R ⟨rfl, rfl, rfl⟩ (r := nI n) ⟨h6, Z6, ?_, R6, ⟨p6 _ rfl (fun e => by cases e) (fun e => by cases e), p6 _ rfl (fun e => by cases e) (fun e => by cases e), p6 _ rfl (fun e => by cases e) (fun e => by cases e)⟩, fun h7 R7 => ?_⟩
  · simp only [f_X6_setUp, bd_s, if_neg ne10, (s_wI c0).1, (s_wI c1).1, (s_wI c2).1, (s_wI c3).1, (s_wI c4).1, (s_dirI c5).1, g_V_4 R, rd_s, c_otn R, s_hasOneAt R (C.t false), if_pos c6, g_tn_0 R, c_oL R (lb_lt _), s0, if_pos (show nI n < (16 : Int32) from nI_lt (b := 16) c7 (by decide)), fr_nw, eM, v4, i4, e2, u2, u2', init_X4, u3, e4, w5, w5', u5, e6, y1, y2, y3, y4, hs]
  · obtain ⟨h8, e8, R8⟩ := w_X_0 R7 0
    have e8 : sF 9 h7 (Z6.2.2.2 bX) 0 (.int 0) = some h8 := e8
    obtain ⟨i9, x1, x2, i8, -⟩ : NF Z6 h8 := R8.n0
    have hn6 : (uI (uO Z6 0 (nI n).toInt64) 0 1 0 0).1 10 0 5 = nI n := by
      show Z6.1 10 0 5 = nI n
      rw [zo 10 (by decide) (by decide) (by decide) (by decide) (by decide)]
      exact hn
    have s5 : gI 8 h8 (Z6.2.2.2 (bst false)) 5 = some (nI n) := by rw [← hn6]; have t := g_st_5 R8 (b := false); exact t
    have t := sl_mfree R8 hn6 h16 a0 a1 a2 a3 a4 a5 n 0 LF 1 hz0 hnLF (Or.inr rfl)
    have e12 : (uI (uO Z6 0 (nI n).toInt64) 0 1 0 0).1 12 = z.1 12 := zo 12 (by decide) (by decide) (by decide) (by decide) (by decide)
    rw [if_neg ne10, e12, ← kE, if_pos c6, hsLF] at t
    obtain ⟨h9, e9, R9⟩ := s_mset_end R8 hn6 c7 a0 a1 a2 a3 a4 a5 (99999 - n)
    rw [e9] at t
    have t : f_X8_setUp_b96 G LF (Z6.2.2.2 bX) a0 a1 a2 a3 a4 a5 1 (0 : Int32) h8 = some (nI n, h9) := t
    have c16 : ¬ (16 : Int32) ≤ nI n := nI_ge (b := 16) c7 (by decide)
    refine ⟨h9, _, ?_, R9, ⟨p6 _ rfl (fun e => by cases e) (fun e => by cases e), p6 _ rfl (fun e => by cases e) (fun e => by cases e), p6 _ rfl (fun e => by cases e) (fun e => by cases e)⟩, rfl, rfl, ?_⟩
    · rw [← p6 bX rfl (fun e => by cases e) (fun e => by cases e)]
      simp only [f_X8_setUp, e8, rd_s, bd_s, if_neg ne10, (s_wI c0).2, (s_wI c1).2, (s_wI c2).2, (s_wI c3).2, (s_wI c4).2, (s_dirI c5).2, x1, s5, if_neg c16, f_X8_setUp_b91, t]
    · refine Good.setUp (z := z) (n := n) (r := r) Gd' g9 c7 (fun q k0 k4 k5 k6 k7 k8 k10 k12 => ?_) (fun k => ?_) (fun k hk => ?_) rfl q6 q63 q64 q65 q653 q654 z4 z6 z7 ?_ ?_ ?_ ?_
      · rw [← zo q k4 k5 k6 k7 k8]
        simp [uI, uR, uG, uO, k0, k10, k12]
      · show Z6.1 0 0 k = _
        rw [zo 0 (by decide) (by decide) (by decide) (by decide) (by decide)]
      · show u1 (Z6.1 10 0) 5 _ k = _
        rw [u1_n _ _ hk, zo 10 (by decide) (by decide) (by decide) (by decide) (by decide)]
      · show u1 (Z6.1 12) n (rV a0 a1 a2 a3 a4 a5) = _
        rw [zo 12 (by decide) (by decide) (by decide) (by decide) (by decide), hr]
      · intro j e hj he
        show Z6.1 5 j e = sumV (fun u => gL (Z6.1 4) j u e) (n + 1)
        rw [z5, z4, ← z14, ← hZ1]
        exact hoG_ok S r h.1 (h.1 + 1) j e hj he
      · obtain ⟨k4, -, hk4, e4⟩ := isW_nat (a := 0) (b := 9) (by decide) (by decide) c4
        exact ⟨⟨k4, by omega, by rw [r4]; exact e4⟩, by rw [r5]; exact isB_0 (by decide), by rw [r6]; exact c5, by rw [r7]; exact isS_0, by rw [r8]; exact isB_0 (by decide)⟩
      · obtain ⟨k3, -, hk3, e3⟩ := isW_nat (a := 1) (b := 9) (by decide) (by decide) c3
        exact ⟨k3, by omega, by rw [r3]; exact e3⟩
