/-! ===== beginWind, addWind ===== -/
def rW (a b c : Int32) : Nat → Int32 := fun k => if k = 0 then a else if k = 1 then b else c
theorem clZ_p (z : Zs) (k : Nat) (l : Lb) : (clZ z k).2.2.2 l = z.2.2.2 l := uL_self (uI z 8 k 0 (z.1 8 k 0 + 1)) k 0
theorem ls_beginWind {G : GE} {x y o : Nat} : LS_beginWind G x y o (IV G x y o) := by
  rintro h ⟨z, R, ⟨rfl, rfl, rfl⟩, Gd⟩ a0 a1 a2 ha2
  have Gd' := Gd
  obtain ⟨n, W, H0, ne, S, g1, g2, g3, g4, g5, g6, g7, g8, g9⟩ := Gd
  have H := S.2.1
  have C := H.1
  have M := S.2.2.2.1
  have h16 := (C.t false).2.2.2
  have h12 := C.2.2.2.2.1
  have hn : z.1 10 0 5 = nI n := M.1
  have hw := H.wi H0
  have h31 : H0 < 2 ^ 31 := by omega
  by_cases c0 : isB 16 a0
  · by_cases c1 : isW 0 9 a1
    · obtain ⟨h1, e1, R1⟩ := s_clear R (k := 0) (by decide)
      have v1 : gR 7 h1 (z.2.2.2 bV) 1 = some (z.2.2.2 (bL 0)) := by have t := g_V_1 R1; rw [clZ_p, clZ_p] at t; exact t
      have R2 := R1.nW (i := 0) (Nat.le_refl _) (Nat.zero_le _) (rW a0 a1 a2)
      have R2 : Rp G _ (FR h1 (.inr (6, [.int a0, .int a1, .int a2, .int (kEighth a0)]))) := R2
      have p2 : ∀ l, ¬ l = bwn 0 → (nwE (clZ z 0) 1 0 0 (bwn 0) (rW a0 a1 a2) h1.1).2.2.2 l = z.2.2.2 l := fun l hl => by rw [nwE_p hl, clZ_p]
      have i2 : isC 0 (FR h1 (.inr (6, [.int a0, .int a1, .int a2, .int (kEighth a0)]))) (z.2.2.2 (bL 0)) = some () := by have t := c_oL R2 (k := 0) (by decide); rw [p2 _ (fun e => by cases e)] at t; exact t
      obtain ⟨h3, z3, e3, R3, N, ad, rfl⟩ := s_add R2 (k := 0) (n := 0) (by decide) rfl (by decide) (fun i hi => absurd hi (Nat.not_lt_zero _)) ⟨6, _, e_wn (by rw [nwE_c]; decide), by decide⟩
      have e3 : f_Jx4a65c_add_9ea2d G (z.2.2.2 (bL 0)) h1.1 (FR h1 (.inr (6, [.int a0, .int a1, .int a2, .int (kEighth a0)]))) = some (1, h3) := by
        rw [p2 _ (fun e => by cases e), show el 0 0 = bwn 0 from rfl, nwE_a] at e3
        exact e3
      generalize hZ : uL (uI (nwE (clZ z 0) 1 0 0 (bwn 0) (rW a0 a1 a2) h1.1) 8 0 0 ((nwE (clZ z 0) 1 0 0 (bwn 0) (rW a0 a1 a2) h1.1).1 8 0 0 + 1)) 0 (0 + 1) N ad = Z at R3
      have pZ : ∀ l, ¬ l = bwn 0 → ¬ l = bA 0 → Z.2.2.2 l = z.2.2.2 l := fun l h1 h2 => by rw [← hZ, uL_ad h2]; exact p2 l h1
      have hW : z.1 10 0 1 = nI (z.2.1 50) := by rw [C.1, S.2.2.1]; exact M.2.2.1
      have zg : ∀ q, ¬ q = 1 → ¬ q = 8 → Z.1 q = z.1 q := fun q h1 h8 => by
        rw [← hZ]
        simp [uL, uI, uR, uG, nwE, clZ, h1, h8]
      have z1 : Z.1 1 = u1 (z.1 1) 0 (rW a0 a1 a2) := by rw [← hZ]; rfl
      have zc : ∀ c, ¬ c = 0 → ¬ c = 50 → ¬ c = 60 → Z.2.1 c = z.2.1 c := fun c h0 h5 h6 => by
        rw [← hZ]
        simp [uL, uI, uR, uG, nwE, clZ, h0, h5, h6]
      have z0 : Z.2.1 0 = 1 := by rw [← hZ]; rfl
      have z5 : Z.2.1 50 = 1 := by rw [← hZ]; rfl
      refine both_ok R ⟨rfl, rfl, rfl⟩ (r := nI (z.2.1 50)) ⟨h3, Z, ?_, R3, ⟨pZ _ (fun e => by cases e) (fun e => by cases e), pZ _ (fun e => by cases e) (fun e => by cases e), pZ _ (fun e => by cases e) (fun e => by cases e)⟩, fun h4 R4 => ?_⟩
      · have s0 : f_Jx4a65c_size_8abf5 G (z.2.2.2 (bL 0)) h = some (nI (z.2.1 50), h) := s_size R (k := 0) (by decide)
        simp only [f_X6_beginWind, (s_dirI c0).1, bd_s, if_neg ne10, (s_wI c1).1, g_V_1 R, rd_s, c_oL R (show 0 < 5 by decide), s0, e1, v1, fr_nw, init_X5 a0 a1 a2 ha2, i2, e3]
      · obtain ⟨h5, e5, R5⟩ := s_mbegin R4 c0 c1 ha2
        have e5 : f_X8_beginWind G (Z.2.2.2 bX) a0 a1 a2 h4 = some (Z.1 10 0 1, h5) := e5
        rw [pZ _ (fun e => by cases e) (fun e => by cases e), zg 10 (by decide) (by decide), hW] at e5
        refine ⟨h5, _, e5, R5, ⟨pZ _ (fun e => by cases e) (fun e => by cases e), pZ _ (fun e => by cases e) (fun e => by cases e), pZ _ (fun e => by cases e) (fun e => by cases e)⟩, rfl, rfl, ?_⟩
        refine Good.winds (z := z) (i := 0) (r := rW a0 a1 a2) Gd' (Nat.zero_le _) (by decide) (fun q q0 q1 q8 q10 q11 => ?_) (fun k => ?_) (fun k hk => ?_) rfl zc z0 z5 z1 (fun k hk => ?_) c0 ha2
        · rw [← zg q q1 q8]
          simp [uI, uR, uG, uO, q0, q1, q8, q10, q11]
        · show Z.1 0 0 k = _
          rw [zg 0 (by decide) (by decide)]
        · show u1 (Z.1 10 0) 1 1 k = _
          rw [u1_n _ _ hk, zg 10 (by decide) (by decide)]
        · match k, hk with
          | 0, _ =>
            show u1 (Z.1 11 0) 0 a0 = _
            rw [zg 11 (by decide) (by decide)]
            rfl
          | 1, _ =>
            show u1 (Z.1 11 1) 0 a1 = _
            rw [zg 11 (by decide) (by decide)]
            rfl
          | 2, _ =>
            show u1 (Z.1 11 2) 0 a2 = _
            rw [zg 11 (by decide) (by decide)]
            rfl
    · refine both_no R Gd' (E := "java/lang/IllegalArgumentException") 1 ?_ (by decide) (by decide) (fun h2 h3 h4 e3 R3 i9 e4 => ?_)
      · simp only [f_X6_beginWind, (s_dirI c0).1, bd_s, if_neg ne10, (s_wO c1).1, if_true, f_X6_beginWind_b17]
      · simp only [f_X8_beginWind, e3, rd_s, (s_dirI c0).2, bd_s, if_neg ne10, (s_wO c1).2, if_true, f_X8_beginWind_b25, i9, e4]
  · refine both_no R Gd' (E := "java/lang/IllegalArgumentException") 1 ?_ (by decide) (by decide) (fun h2 h3 h4 e3 R3 i9 e4 => ?_)
    · simp only [f_X6_beginWind, (s_dirO c0).1, bd_s, if_true, f_X6_beginWind_b17]
    · simp only [f_X8_beginWind, e3, rd_s, (s_dirO c0).2, bd_s, if_true, f_X8_beginWind_b25, i9, e4]
theorem ls_addWind {G : GE} {x y o : Nat} : LS_addWind G x y o (IV G x y o) := by
  rintro h ⟨z, R, ⟨rfl, rfl, rfl⟩, Gd⟩ a0 a1 a2 ha2
  have Gd' := Gd
  obtain ⟨n, W, H0, ne, S, g1, g2, g3, g4, g5, g6, g7, g8, g9⟩ := Gd
  have H := S.2.1
  have C := H.1
  have M := S.2.2.2.1
  have h16 := (C.t false).2.2.2
  have h12 := C.2.2.2.2.1
  have hn : z.1 10 0 5 = nI n := M.1
  have hw := H.wi H0
  have h31 : H0 < 2 ^ 31 := by omega
  have hW : z.1 10 0 1 = nI (z.2.1 0) := by rw [S.2.2.1]; exact M.2.2.1
  have s0 : f_Jx4a65c_size_8abf5 G (z.2.2.2 (bL 0)) h = some (nI (z.2.1 0), h) := by rw [← C.1]; exact s_size R (k := 0) (by decide)
  by_cases c0 : isB 16 a0
  · by_cases c1 : isW 0 9 a1
    · by_cases c2 : z.2.1 0 < 24
      · have R2 := R.nW (i := z.2.1 0) (Nat.le_of_eq C.1) (Nat.le_refl _) (rW a0 a1 a2)
        have R2 : Rp G _ (FR h (.inr (6, [.int a0, .int a1, .int a2, .int (kEighth a0)]))) := R2
        have p2 : ∀ l, ¬ l = bwn (z.2.1 0) → (nwE z 1 0 (z.2.1 0) (bwn (z.2.1 0)) (rW a0 a1 a2) h.1).2.2.2 l = z.2.2.2 l := fun l hl => nwE_p hl
        have i2 : isC 0 (FR h (.inr (6, [.int a0, .int a1, .int a2, .int (kEighth a0)]))) (z.2.2.2 (bL 0)) = some () := by have t := c_oL R2 (k := 0) (by decide); rw [p2 _ (fun e => by cases e)] at t; exact t
        obtain ⟨h3, z3, e3, R3, N, ad, rfl⟩ := s_add R2 (k := 0) (n := z.2.1 0) (by decide) C.1 c2 (fun i hi => ⟨6, _, e_wn (by rw [nwE_c]; have hi : i < z.2.1 50 := hi; rw [C.1] at hi; omega), by decide⟩) ⟨6, _, e_wn (by rw [nwE_c]; omega), by decide⟩
        have e3 : f_Jx4a65c_add_9ea2d G (z.2.2.2 (bL 0)) h.1 (FR h (.inr (6, [.int a0, .int a1, .int a2, .int (kEighth a0)]))) = some (1, h3) := by
          rw [p2 _ (fun e => by cases e), show el 0 (z.2.1 0) = bwn (z.2.1 0) from rfl, nwE_a] at e3
          exact e3
        generalize hZ : uL (uI (nwE z 1 0 (z.2.1 0) (bwn (z.2.1 0)) (rW a0 a1 a2) h.1) 8 0 0 ((nwE z 1 0 (z.2.1 0) (bwn (z.2.1 0)) (rW a0 a1 a2) h.1).1 8 0 0 + 1)) 0 (z.2.1 0 + 1) N ad = Z at R3
        have pZ : ∀ l, ¬ l = bwn (z.2.1 0) → ¬ l = bA 0 → Z.2.2.2 l = z.2.2.2 l := fun l h1 h2 => by rw [← hZ, uL_ad h2]; exact p2 l h1
        have zg : ∀ q, ¬ q = 1 → ¬ q = 8 → Z.1 q = z.1 q := fun q h1 h8 => by
          rw [← hZ]
          simp [uL, uI, uR, uG, nwE, h1, h8]
        have z1 : Z.1 1 = u1 (z.1 1) (z.2.1 0) (rW a0 a1 a2) := by rw [← hZ]; rfl
        have zc : ∀ c, ¬ c = 0 → ¬ c = 50 → ¬ c = 60 → Z.2.1 c = z.2.1 c := fun c h0 h5 h6 => by
          rw [← hZ]
          simp [uL, uI, uR, uG, nwE, h0, h5, h6]
        have z0 : Z.2.1 0 = z.2.1 0 + 1 := by rw [← hZ]; rfl
        have z5 : Z.2.1 50 = z.2.1 0 + 1 := by rw [← hZ]; rfl
        have v3 : gR 7 h3 (z.2.2.2 bV) 1 = some (z.2.2.2 (bL 0)) := by have t := g_V_1 R3; rw [pZ _ (fun e => by cases e) (fun e => by cases e), pZ _ (fun e => by cases e) (fun e => by cases e)] at t; exact t
        have i3 : isC 0 h3 (z.2.2.2 (bL 0)) = some () := by have t := c_oL R3 (k := 0) (by decide); rw [pZ _ (fun e => by cases e) (fun e => by cases e)] at t; exact t
        have s3 : f_Jx4a65c_size_8abf5 G (z.2.2.2 (bL 0)) h3 = some (nI (z.2.1 0 + 1), h3) := by have t := s_size R3 (k := 0) (by decide); rw [pZ _ (fun e => by cases e) (fun e => by cases e), z5] at t; exact t
        refine both_ok R ⟨rfl, rfl, rfl⟩ (r := nI (z.2.1 0 + 1)) ⟨h3, Z, ?_, R3, ⟨pZ _ (fun e => by cases e) (fun e => by cases e), pZ _ (fun e => by cases e) (fun e => by cases e), pZ _ (fun e => by cases e) (fun e => by cases e)⟩, fun h4 R4 => ?_⟩
        · simp only [f_X6_addWind, (s_dirI c0).1, bd_s, if_neg ne10, (s_wI c1).1, g_V_1 R, rd_s, c_oL R (show 0 < 5 by decide), s0, if_pos (show nI (z.2.1 0) < (24 : Int32) from nI_lt (b := 24) c2 (by decide)), fr_nw, init_X5 a0 a1 a2 ha2, i2, e3, v3, i3, s3]
        · have hWZ : Z.1 10 0 1 = nI (z.2.1 0) := by rw [zg 10 (by decide) (by decide)]; exact hW
          obtain ⟨h5, e5, R5⟩ := s_madd R4 c0 c1 ha2 (W := z.2.1 0) hWZ c2
          have e5 : f_X8_addWind G (Z.2.2.2 bX) a0 a1 a2 h4 = some (nI (z.2.1 0 + 1), h5) := e5
          rw [pZ _ (fun e => by cases e) (fun e => by cases e)] at e5
          refine ⟨h5, _, e5, R5, ⟨pZ _ (fun e => by cases e) (fun e => by cases e), pZ _ (fun e => by cases e) (fun e => by cases e), pZ _ (fun e => by cases e) (fun e => by cases e)⟩, rfl, rfl, ?_⟩
          refine Good.winds (z := z) (i := z.2.1 0) (r := rW a0 a1 a2) Gd' (Nat.le_refl _) c2 (fun q q0 q1 q8 q10 q11 => ?_) (fun k => ?_) (fun k hk => ?_) rfl zc z0 z5 z1 (fun k hk => ?_) c0 ha2
          · rw [← zg q q1 q8]
            simp [uI, uR, uG, uO, q0, q1, q8, q10, q11]
          · show Z.1 0 0 k = _
            rw [zg 0 (by decide) (by decide)]
          · show u1 (Z.1 10 0) 1 _ k = _
            rw [u1_n _ _ hk, zg 10 (by decide) (by decide)]
          · match k, hk with
            | 0, _ =>
              show u1 (Z.1 11 0) (z.2.1 0) a0 = _
              rw [zg 11 (by decide) (by decide)]
              rfl
            | 1, _ =>
              show u1 (Z.1 11 1) (z.2.1 0) a1 = _
              rw [zg 11 (by decide) (by decide)]
              rfl
            | 2, _ =>
              show u1 (Z.1 11 2) (z.2.1 0) a2 = _
              rw [zg 11 (by decide) (by decide)]
              rfl
      · have hW24 : z.2.1 0 = 24 := by have := C.2.2.1; omega
        refine both_no R Gd' (E := "java/lang/IllegalStateException") 2 ?_ (by decide) (by decide) (fun h2 h3 h4 e3 R3 i9 e4 => ?_)
        · simp only [f_X6_addWind, (s_dirI c0).1, bd_s, if_neg ne10, (s_wI c1).1, g_V_1 R, rd_s, c_oL R (show 0 < 5 by decide), s0, if_neg (show ¬ nI (z.2.1 0) < (24 : Int32) by rw [hW24]; decide)]
        · obtain ⟨-, x1, x2, i8, -⟩ : NF z h3 := R3.nf
          have y1 : gI 8 h3 (z.2.2.2 (bst false)) 1 = some (24 : Int32) := by have t := g_st_1 R3 (b := false); rw [show (uI z 0 1 0 0).1 (gm false 0) 0 1 = (24 : Int32) by rw [show (uI z 0 1 0 0).1 (gm false 0) 0 1 = z.1 10 0 1 from rfl, hW, hW24]; rfl] at t; exact t
          simp only [f_X8_addWind, e3, rd_s, (s_dirI c0).2, bd_s, if_neg ne10, (s_wI c1).2, x1, y1, if_true, i9, e4]
    · refine both_no R Gd' (E := "java/lang/IllegalArgumentException") 1 ?_ (by decide) (by decide) (fun h2 h3 h4 e3 R3 i9 e4 => ?_)
      · simp only [f_X6_addWind, (s_dirI c0).1, bd_s, if_neg ne10, (s_wO c1).1, if_true, f_X6_addWind_b17]
      · simp only [f_X8_addWind, e3, rd_s, (s_dirI c0).2, bd_s, if_neg ne10, (s_wO c1).2, if_true, f_X8_addWind_b25, i9, e4]
  · refine both_no R Gd' (E := "java/lang/IllegalArgumentException") 1 ?_ (by decide) (by decide) (fun h2 h3 h4 e3 R3 i9 e4 => ?_)
    · simp only [f_X6_addWind, (s_dirO c0).1, bd_s, if_true, f_X6_addWind_b17]
    · simp only [f_X8_addWind, e3, rd_s, (s_dirO c0).2, bd_s, if_true, f_X8_addWind_b25, i9, e4]
