/-! ===== pass ===== -/
theorem vE_k (b : Bool) (n : Nat) (rec : Int32) (m : Nat) (z : Zs) {g : Nat} (h6 : ¬ g = gv b) (h2 : ¬ g = 2) : (vE b n rec m z).1 g = z.1 g := by
  have h1 : (if kCarr z b m n = 0 then z else uG z (gv b) (mapN n (fF z b m) (z.1 (gv b)))).1 g = z.1 g := by
    split
    · rfl
    · exact uG_n _ _ h6
  unfold vE
  by_cases c : rec = 0
  · simp only [if_pos c]
    exact h1
  · simp only [if_neg c, uR]
    rw [uG_n _ _ h2]
    exact h1
theorem vI_k (b : Bool) (n : Nat) (rec t : Int32) (k : Nat) (z : Zs) {g : Nat} (h6 : ¬ g = gv b) (h2 : ¬ g = 2) : (vI b n rec t k z).1 g = z.1 g := by
  induction k with
  | zero => rfl
  | succ k ih =>
    show (vS b n rec t k (vI b n rec t k z)).1 g = z.1 g
    rw [← ih]
    unfold vS
    split
    · exact vE_k b n rec _ _ h6 h2
    · rfl
theorem hoS_k (b : Bool) (n : Nat) (rec : Int32) (t : Nat) (z : Zs) {g : Nat} (h6 : ¬ g = gv b) (h2 : ¬ g = 2) : (hoS b n rec t z).1 g = z.1 g := by
  show (raS b n t (vI b n rec (nI t) ((blS b n t z).2.1 2) (blS b n t z))).1 g = z.1 g
  have h1 : (vI b n rec (nI t) ((blS b n t z).2.1 2) (blS b n t z)).1 g = z.1 g := by
    rw [vI_k _ _ _ _ _ _ h6 h2]
    exact uG_n _ _ h6
  generalize vI b n rec (nI t) ((blS b n t z).2.1 2) (blS b n t z) = y at h1
  unfold raS
  split
  · exact h1
  · rw [uG_n _ _ h6]
    exact h1
theorem paZ_k {n g : Nat} (h6 : ¬ g = 6) (h2 : ¬ g = 2) (h0 : ¬ g = 0) : ∀ d t z, (paZ n d t z).1 g = z.1 g := by
  intro d
  induction d with
  | zero => intro t z; rfl
  | succ d ih =>
    intro t z
    show (paZ n d (t + 1) (uI (hoS false n 1 t z) 0 0 0 (nI (t + 1)))).1 g = z.1 g
    rw [ih, uI, uR, uG_n _ _ h0]
    exact hoS_k false n 1 t z h6 h2
theorem paZ_01 {n : Nat} : ∀ d t z, (paZ n d t z).1 0 0 1 = z.1 0 0 1 := by
  intro d
  induction d with
  | zero => intro t z; rfl
  | succ d ih =>
    intro t z
    show (paZ n d (t + 1) (uI (hoS false n 1 t z) 0 0 0 (nI (t + 1)))).1 0 0 1 = z.1 0 0 1
    rw [ih]
    show (hoS false n 1 t z).1 0 0 1 = z.1 0 0 1
    rw [hoS_k false n 1 t z (g := 0) (by decide) (by decide)]
theorem SimH.mo {n W t ne : Nat} {c m m' : Zs} {b d : Bool} (S : SimH n W t ne c b m d) (e : ∀ j, j < 5 → m'.1 (gm d j) = m.1 (gm d j)) : SimH n W t ne c b m' d := by
  obtain ⟨s1, s2, s3, s4, s5, s6, s7, s8⟩ := S
  exact ⟨s1.mk' (SK.rfl' c) (fun u q _ => by rw [e 2 (by decide)]) (e 1 (by decide)) (fun u q _ => by rw [e 3 (by decide)]) (fun j hj => by rw [e 2 (by decide)]; exact s1.1 j hj), s2, s3, s4.of (e 0 (by decide)), by rw [e 0 (by decide)]; exact s5, s6, by rw [e 4 (by decide)]; exact s7, s8⟩
/-- the class's past entries dropped -/
theorem SimH.drop {n W t ne : Nat} {c c' m : Zs} (S : SimH n W t ne c false m false) (hg : ∀ g, ¬ g = 0 → ¬ g = 3 → ¬ g = 8 → g < 10 → c'.1 g = c.1 g) (hc : ∀ k, ¬ k = 2 → ¬ k = 52 → c'.2.1 k = c.2.1 k) (h5 : c'.2.1 52 = c'.2.1 2)
    (hL : rowL (c'.1 3) (c'.2.1 2) 0 = (rowL (c.1 3) (c.2.1 2) 0).filter (fun e => decide (nI t ≤ e.2))) : SimH n W t ne c' false m false ∧ ∀ a, a < c'.2.1 2 → nI t ≤ c'.1 3 a 1 := by
  obtain ⟨⟨s1, s2, s3, s4, s5, s6⟩, ⟨C, hd0, hw0, ha0, hv0⟩, e3, M, e5, e6, e7, e8⟩ := S
  have k1 := hg 1 (by decide) (by decide) (by decide) (by decide)
  have k2 := hg 2 (by decide) (by decide) (by decide) (by decide)
  have k4 := hg 4 (by decide) (by decide) (by decide) (by decide)
  have k5 := hg 5 (by decide) (by decide) (by decide) (by decide)
  have k6 : c'.1 (gv false) = c.1 (gv false) := hg 6 (by decide) (by decide) (by decide) (by decide)
  have c0 := hc 0 (by decide) (by decide)
  have c1 := hc 1 (by decide) (by decide)
  have c3 := hc 3 (by decide) (by decide)
  have c4 := hc 4 (by decide) (by decide)
  have c5 := hc 5 (by decide) (by decide)
  have c50 := hc 50 (by decide) (by decide)
  have c51 := hc 51 (by decide) (by decide)
  have c53 := hc 53 (by decide) (by decide)
  have c54 := hc 54 (by decide) (by decide)
  have hmem : ∀ a, a < c'.2.1 2 → nI t ≤ c'.1 3 a 1 ∧ ∃ i, i < c.2.1 2 ∧ c'.1 3 a 0 = c.1 3 i 0 ∧ c'.1 3 a 1 = c.1 3 i 1 := by
    intro a ha
    have h1 := rowL_get (f := c'.1 3) (c'.2.1 2) 0 a ha
    rw [hL, Nat.zero_add] at h1
    obtain ⟨h2, h3⟩ := List.mem_filter.mp h1
    obtain ⟨i, -, hi, e⟩ := rowL_mem _ _ h2
    exact ⟨of_decide_eq_true h3, i, by omega, congrArg Prod.fst e, congrArg Prod.snd e⟩
  have hlen : c'.2.1 2 ≤ c.2.1 2 := by
    have h1 := congrArg List.length hL
    rw [rowL_len] at h1
    rw [h1]
    refine Nat.le_trans (List.length_filter_le _ _) ?_
    rw [rowL_len]
    exact Nat.le_refl _
  obtain ⟨p1, p2, p3, p4, p5, p6, p7, p8, p9⟩ := C
  refine ⟨⟨⟨?_, ?_, ?_, ?_, ?_, ?_⟩, ⟨⟨by rw [c50, c0]; exact p1, by rw [c0]; exact p2, by rw [c0]; exact p3, by rw [c51, c1]; exact p4, by rw [c1]; exact p5, h5, by omega, ⟨c53.trans p8.1, c4.trans p8.2.1, by rw [c3]; exact p8.2.2.1, p8.2.2.2⟩, ⟨c54.trans p9.1, c5.trans p9.2.1, by rw [c3]; exact p9.2.2.1, p9.2.2.2⟩⟩, ?_, ?_, ?_, ?_⟩, by rw [c0]; exact e3, M, e5, e6, ?_, ?_⟩, fun a ha => (hmem a ha).1⟩
  · intro j hj
    rw [k6]
    exact s1 j hj
  · intro j k hj hk
    rw [k4]
    exact s2 j k hj hk
  · intro j e hj he
    rw [k5]
    exact s3 j e hj he
  · intro w k hw hk
    rw [c0] at hw
    rw [k1]
    exact s4 w k hw hk
  · intro q k hq hk
    rw [c1] at hq
    rw [k2]
    exact s5 q k hq hk
  · intro q hq
    rw [c1] at hq
    rw [k2]
    exact s6 q hq
  · intro w hw
    rw [c0] at hw
    rw [k1]
    exact hd0 w hw
  · intro j hj
    rw [k4]
    exact hw0 j hj
  · intro a ha
    obtain ⟨-, i, hi, h1, -⟩ := hmem a ha
    rw [c1, h1]
    exact ha0 i hi
  · intro j hj
    rw [k6]
    exact hv0 j hj
  · show rowL (m.1 (gm false 4)) ne 0 = (rowL (c'.1 3) (c'.2.1 2) 0).filter (fun e => decide (nI t ≤ e.2))
    rw [hL, List.filter_filter]
    simp only [Bool.and_self]
    exact e7
  · intro a ha
    obtain ⟨-, i, hi, -, h2⟩ := hmem a ha
    rw [h2]
    exact e8 i hi
theorem ls_pass {G : GE} {x y o : Nat} : LS_pass G x y o (IV G x y o) := by
  rintro h ⟨z, R, ⟨rfl, rfl, rfl⟩, Gd⟩ a0
  have Gd' := Gd
  obtain ⟨n, W, H0, ne, S, g1, g2, g3, g4, g5, g6, g7, g8, g9⟩ := Gd
  have H := S.2.1
  have C := H.1
  have M := S.2.2.2.1
  have h16 := (C.t false).2.2.2
  have h12 := C.2.2.2.2.1
  have hn : z.1 10 0 5 = nI n := M.1
  have hw := H.wi H0
  have h31 : H0 < 2 ^ 31 := by omega
  have hH : z.1 10 0 0 = nI H0 := M.2.2.2.2.2.1
  by_cases c0 : isW 1 100 a0
  rotate_left
  · refine both_no R Gd' (E := "java/lang/IllegalArgumentException") 1 ?_ (by decide) (by decide) (fun h2 h3 h4 e3 R3 i9 e4 => ?_)
    · simp only [f_X6_pass, (s_wO c0).1, bd_s, if_true]
    · simp only [f_X8_pass, e3, rd_s, (s_wO c0).2, i9, bd_s, if_true, e4]
  obtain ⟨N, hN1, hN2, rfl⟩ := isW_nat (a := 1) (b := 100) (by decide) (by decide) c0
  by_cases c1 : H0 + N ≤ 2000
  rotate_left
  · have c1' : ¬ nI (H0 + N) ≤ (2000 : Int32) := nI_ge (b := H0 + N) (a := 2000) (by omega) (by omega)
    refine both_no R Gd' (E := "java/lang/IllegalStateException") 2 ?_ (by decide) (by decide) (fun h2 h3 h4 e3 R3 i9 e4 => ?_)
    · simp only [f_X6_pass, (s_wI c0).1, bd_s, if_neg ne10, s_V6 R g1, rd_s, nI_add, if_neg c1']
    · obtain ⟨-, x1, x2, i8, -⟩ : NF z h3 := R3.nf
      have y0 : gI 8 h3 (z.2.2.2 (bst false)) 0 = some (nI H0) := by rw [← hH]; have t := g_st_0 R3 (b := false); exact t
      simp only [f_X8_pass, e3, rd_s, (s_wI c0).2, i9, bd_s, if_neg ne10, x1, y0, nI_add, if_neg c1', e4]
  have c1' : nI (H0 + N) ≤ (2000 : Int32) := nI_le (a := H0 + N) (b := 2000) c1 (by decide)
  have q := sl_passL (G := G) (n := n) (N := N) (H0 := H0) (Q := fun x zz out => zz.1 0 0 0 = nI (H0 + N) ∧ HB zz false n ∧ ∃ h1, out = some (.inl x, h1) ∧ Rp G (dropZ (nI (H0 + N)) (zz.2.1 52) (uI zz 0 0 1 (zz.1 0 0 1 + x))) h1) (fun fuel zz h x R H hH => by
    obtain ⟨h1, e1, R1⟩ := w_V_7 R (zz.1 0 0 1 + x)
    have i7 : isC 7 h1 (zz.2.2.2 bV) = some () := by have t := c_oV R1; exact t
    have q52 : zz.2.1 52 = zz.2.1 2 := H.1.2.2.2.2.2.1
    obtain ⟨h2, e2, R2⟩ := s_drop R1 q52 (by show zz.2.1 52 ≤ 20; have := H.1.2.2.2.2.2.2.1; omega)
    have e2 : f_X6_dropPastEntries G (zz.2.2.2 bV) h1 = some ((), h2) := e2
    refine ⟨hH, H, h2, ?_, ?_⟩
    · show f_X6_pass_b46_body G (f_X6_pass_b46 G fuel) (zz.2.2.2 bV) (nI N) x (nI N) h = _
      simp only [f_X6_pass_b46_body, if_pos (Int32.le_refl _), g_V_7 R, rd_s, e1, i7, e2, bd_s]
    · have t := R2
      rw [show (uI zz 0 0 1 (zz.1 0 0 1 + x)).1 0 0 0 = nI (H0 + N) from hH] at t
      exact t) (by omega) N 0 LF z h 0 (by omega) (by unfold LF; omega) R H (by rw [g1]; rfl)
  rw [Nat.add_zero, Int32.zero_add] at q
  obtain ⟨qH, qB, h1, e1, R1⟩ := q
  generalize hK : paK n N H0 z = K at e1 R1
  have hP2 : (paZ n N H0 z).2 = z.2 := paZ_2 N H0 z
  have hPk : ∀ g, ¬ g = 6 → ¬ g = 2 → ¬ g = 0 → (paZ n N H0 z).1 g = z.1 g := fun g h6 h2 h0 => paZ_k h6 h2 h0 N H0 z
  have hP1 : (paZ n N H0 z).1 0 0 1 = z.1 0 0 1 := paZ_01 N H0 z
  generalize hZ : dropZ (nI (H0 + N)) ((paZ n N H0 z).2.1 52) (uI (paZ n N H0 z) 0 0 1 ((paZ n N H0 z).1 0 0 1 + K)) = Z at R1
  have zp : ∀ l, (∀ i, ¬ l = bae i) → Z.2.2.2 l = z.2.2.2 l := fun l hl => by
    rw [← hZ, dropZ_ad _ l hl, uI_2, hP2]
  have zg : ∀ g, ¬ g = 3 → ¬ g = 8 → Z.1 g = (uI (paZ n N H0 z) 0 0 1 ((paZ n N H0 z).1 0 0 1 + K)).1 g := fun g h3 h8 => by
    rw [← hZ, dropZ_g _ h3 h8]
  have zo : ∀ g, ¬ g = 0 → ¬ g = 3 → ¬ g = 8 → Z.1 g = (paZ n N H0 z).1 g := fun g h0 h3 h8 => by
    rw [zg g h3 h8]
    exact uG_n _ _ h0
  have zm : ∀ g, 10 ≤ g → Z.1 g = z.1 g := fun g hg => by
    rw [zo g (by omega) (by omega) (by omega), hPk g (by omega) (by omega) (by omega)]
  have zc : ∀ k, ¬ k = 2 → ¬ k = 52 → Z.2.1 k = z.2.1 k := fun k h2 h5 => by
    rw [← hZ, dropZ_c _ h5 h2, uI_2, hP2]
  have z52 : Z.2.1 52 = Z.2.1 2 := by
    rw [← hZ]
    exact dropZ_n _ _ _ (by rw [uI_2, hP2]; exact C.2.2.2.2.2.1)
  have zL : rowL (Z.1 3) (Z.2.1 2) 0 = (rowL ((paZ n N H0 z).1 3) ((paZ n N H0 z).2.1 2) 0).filter (fun e => decide (nI (H0 + N) ≤ e.2)) := by
    have h52 : (paZ n N H0 z).2.1 52 = (paZ n N H0 z).2.1 2 := by rw [hP2]; exact C.2.2.2.2.2.1
    have t := dropZ_L (nI (H0 + N)) ((paZ n N H0 z).2.1 52) (uI (paZ n N H0 z) 0 0 1 ((paZ n N H0 z).1 0 0 1 + K)) (by rw [uI_2, h52]; exact Nat.le_refl _)
    rw [hZ] at t
    rw [t, uI_2, h52, Nat.sub_self, show (uI (paZ n N H0 z) 0 0 1 ((paZ n N H0 z).1 0 0 1 + K)).1 3 = (paZ n N H0 z).1 3 from rfl]
    simp only [rowL, List.append_nil]
  have z0 : Z.1 0 0 0 = nI (H0 + N) := by
    rw [zg 0 (by decide) (by decide)]
    exact qH
  have z1 : Z.1 0 0 1 = z.1 0 0 1 + K := by
    rw [zg 0 (by decide) (by decide)]
    show (paZ n N H0 z).1 0 0 1 + K = _
    rw [hP1]
  refine both_ok R ⟨rfl, rfl, rfl⟩ (r := K) ⟨h1, Z, ?_, R1, ⟨zp _ (fun i e => by cases e), zp _ (fun i e => by cases e), zp _ (fun i e => by cases e)⟩, fun h4 R4 => ?_⟩
  · have e1 : f_X6_pass_b46 G LF (z.2.2.2 bV) (nI N) (0 : Int32) (0 : Int32) h = some (.inl K, h1) := e1
    simp only [f_X6_pass, (s_wI c0).1, bd_s, if_neg ne10, s_V6 R g1, rd_s, nI_add, if_pos c1', e1]
  · obtain ⟨h5, e5, R5⟩ := w_X_0 R4 0
    have S' : SimH n W H0 ne z false (uI (uO Z 0 K.toInt64) 0 1 0 0) false := S.mo (fun j hj => by rw [uI, uR, uG_n _ _ (by have := gm_ge false j; omega)]; exact zm _ (gm_ge false j))
    have C' : MC z (uI (uO Z 0 K.toInt64) 0 1 0 0) false := g5.of rfl rfl (zm _ (gm_ge false 3))
    obtain ⟨h6, m', ne', e6, R6, S6, C6, O6, p6, r6, w6⟩ := sl_mpass (G := G) (n := n) (W := W) (N := N) (by omega) N 0 H0 LF z _ h5 0 ne (by omega) (by unfold LF; omega) (by omega) R5 S' C'
    have e6 : f_X8_pass_b46 G LF (Z.2.2.2 bX) (nI N) (0 : Int32) (0 : Int32) h5 = some ((0 : Int32) + paK n N H0 z, h6) := e6
    have e5 : sF 9 h4 (Z.2.2.2 bX) 0 (.int 0) = some h5 := e5
    obtain ⟨i9, x1, x2, i8, -⟩ : NF Z h5 := R5.n0
    have y0 : gI 8 h5 (Z.2.2.2 (bst false)) 0 = some (nI H0) := by rw [← hH, ← zm 10 (by decide)]; have t := g_st_0 R5 (b := false); exact t
    rw [hK, Int32.zero_add] at e6
    rw [hK] at p6
    have mp : ∀ l, (∀ i, ¬ l = bae i) → m'.2.2.2 l = z.2.2.2 l := fun l hl => by rw [O6.1]; exact zp l hl
    have mg : ∀ g, ¬ g = 0 → g < 10 → m'.1 g = Z.1 g := fun g h0 h10 => by
      rw [O6.2 g (fun j _ => by have := gm_ge false j; omega)]
      exact uG_n _ _ h0
    have m0 : m'.1 0 = (uI (uO Z 0 K.toInt64) 0 1 0 0).1 0 := O6.2 0 (fun j _ => by have := gm_ge false j; omega)
    have hD := S6.drop (c' := m') (fun g h0 h3 h8 h10 => by rw [mg g h0 h10, zo g h0 h3 h8]) (fun k h2 h5 => by rw [O6.1, hP2]; exact zc k h2 h5) (by rw [O6.1]; exact z52) (by rw [O6.1, mg 3 (by decide) (by decide)]; exact zL)
    refine ⟨h6, m', ?_, R6, ⟨mp _ (fun i e => by cases e), mp _ (fun i e => by cases e), mp _ (fun i e => by cases e)⟩, ?_, by rw [O6.1]; rfl, n, W, H0 + N, ne', hD.1, ?_, c1, ?_, ?_, ?_, hD.2, ?_, ?_, ?_⟩
    · rw [← zp bX (fun i e => by cases e)]
      simp only [f_X8_pass, e5, rd_s, (s_wI c0).2, i9, bd_s, if_neg ne10, x1, y0, nI_add, if_pos c1', e6]
    · rw [m0]
      rfl
    · rw [m0]
      exact z0
    · rw [m0, p6]
      show Z.1 0 0 1 = Z.1 10 0 11 + K
      rw [z1, g3, zm 10 (by decide)]
    · rw [r6 7 (by decide) (by decide) (by decide), O6.1]
      show Z.1 10 0 7 = nI (Z.2.1 1)
      rw [zm 10 (by decide), zc 1 (by decide) (by decide)]
      exact g4
    · intro q k hq h4 h6
      rw [O6.1] at hq
      have hq : q < Z.2.1 1 := hq
      rw [mg 2 (by decide) (by decide), zo 2 (by decide) (by decide) (by decide)]
      exact C6 q k (by rw [hP2]; rw [zc 1 (by decide) (by decide)] at hq; exact hq) h4 h6
    · intro i hi
      rw [w6]
      show Z.1 11 2 i = 0 ∨ Z.1 11 2 i = 1
      rw [zm 11 (by decide)]
      exact g7 i hi
    · intro b j hj
      cases b
      · exact hD.1.2.1.2.2.2.2 j hj
      · rw [show m'.1 (gv true) = z.1 (gv true) by rw [show gv true = 7 from rfl, mg 7 (by decide) (by decide), zo 7 (by decide) (by decide) (by decide), hPk 7 (by decide) (by decide) (by decide)]]
        exact g8 true j hj
    · rw [O6.1]
      show Z.2.1 3 = n
      rw [zc 3 (by decide) (by decide)]
      exact g9
