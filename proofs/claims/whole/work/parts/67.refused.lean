/-! ===== refused, or answered: both sides at once ===== -/
def isW (a b x : Int32) : Prop := ¬ x < a ∧ ¬ b < x
theorem s_wI {G : GE} {h : PH} {a b x : Int32} (hx : isW a b x) : f_X6_isWithin G x a b h = some (1, h) ∧ f_X8_isIn G x a b h = some (1, h) := by
  rw [s_isWithin, s_isIn, if_neg hx.1, if_neg hx.2]
  exact ⟨rfl, rfl⟩
theorem s_wO {G : GE} {h : PH} {a b x : Int32} (hx : ¬ isW a b x) : f_X6_isWithin G x a b h = some (0, h) ∧ f_X8_isIn G x a b h = some (0, h) := by
  rw [s_isWithin, s_isIn]
  by_cases c : x < a
  · rw [if_pos c]
    exact ⟨rfl, rfl⟩
  · have d : b < x := Decidable.byContradiction (fun d => hx ⟨c, d⟩)
    rw [if_neg c, if_pos d]
    exact ⟨rfl, rfl⟩
theorem isW_nat {a b : Nat} {x : Int32} (ha : a < 2 ^ 31) (hb : b < 2 ^ 31) (h : isW (nI a) (nI b) x) : ∃ k, a ≤ k ∧ k ≤ b ∧ x = nI k := by
  have h1 := h.1
  have h2 := h.2
  rw [Int32.lt_iff_toInt_lt, nI_toInt (by omega)] at h1 h2
  have h0 : ¬ x < 0 := by
    rw [show (0 : Int32) = nI 0 from rfl, Int32.lt_iff_toInt_lt, nI_toInt (by omega)]
    omega
  obtain ⟨k, hk, rfl⟩ := nI_of h0
  rw [nI_toInt (by omega)] at h1 h2
  exact ⟨k, by omega, by omega, rfl⟩
def NF (z : Zs) (h : PH) : Prop := isC 9 h (z.2.2.2 bX) = some () ∧ gR 9 h (z.2.2.2 bX) 1 = some (z.2.2.2 (bst false)) ∧ gR 9 h (z.2.2.2 bX) 2 = some (z.2.2.2 (bst true)) ∧ isC 8 h (z.2.2.2 (bst false)) = some () ∧ isC 8 h (z.2.2.2 (bst true)) = some ()
theorem Rp.nf {G : GE} {z : Zs} {v : Int32} {h : PH} (R : Rp G (uI z 0 1 0 v) h) : NF z h :=
  ⟨c_oX (z := uI z 0 1 0 v) R, g_X_1 (z := uI z 0 1 0 v) R, g_X_2 (z := uI z 0 1 0 v) R, c_ost (z := uI z 0 1 0 v) R, c_ost (z := uI z 0 1 0 v) R⟩
theorem both_no {G : GE} {h : PH} {z : Zs} {f : Option (Sum Int32 String × PH)} {okE : String → Prop} {cd : String → Int32} {g : PH → Option (Int32 × PH)} (R : Rp G z h) (Gd : Good z) {E : String} (k : Int32)
    (hf : f = some (.inr E, h)) (hE : okE E ∧ ¬ cd E = 0) (hk : cd E = k) (hg : ∀ h2 h3 h4, sF 9 h2 (z.2.2.2 bX) 0 (.int 0) = some h3 → Rp G (uI z 0 1 0 0) h3 → isC 9 h3 (z.2.2.2 bX) = some () → f_X8_no G (z.2.2.2 bX) k h3 = some (0, h4) → g h2 = some (0, h4)) :
    stX G (z.2.2.2 bV) (z.2.2.2 bX) (z.2.2.2 bO) f okE cd g h (IV G (z.2.2.2 bV) (z.2.2.2 bX) (z.2.2.2 bO)) := by
  refine both_ex R ⟨rfl, rfl, rfl⟩ hf hE (fun h2 R2 => ?_)
  obtain ⟨h3, e3, R3⟩ := w_X_0 R2 0
  obtain ⟨h4, e4, R4⟩ := s_no2 R3 k
  refine ⟨0, h4, _, hg h2 h3 h4 e3 R3 R3.nf.1 e4, R4, ⟨rfl, rfl, rfl⟩, hk.symm, Gd.thr k⟩
theorem both_ask {G : GE} {h : PH} {z : Zs} {f : Option (Sum Int32 String × PH)} {okE : String → Prop} {cd : String → Int32} {g : PH → Option (Int32 × PH)} (R : Rp G z h) (Gd : Good z) {r : Int32}
    (hf : f = some (.inl r, h)) (hg : ∀ h2 h3, sF 9 h2 (z.2.2.2 bX) 0 (.int 0) = some h3 → Rp G (uI (uO z 0 r.toInt64) 0 1 0 0) h3 → ∃ h4, g h2 = some (r, h4) ∧ Rp G (uI (uO z 0 r.toInt64) 0 1 0 0) h4) :
    stX G (z.2.2.2 bV) (z.2.2.2 bX) (z.2.2.2 bO) f okE cd g h (IV G (z.2.2.2 bV) (z.2.2.2 bX) (z.2.2.2 bO)) := by
  refine both_ok R ⟨rfl, rfl, rfl⟩ (r := r) ⟨h, z, hf, R, ⟨rfl, rfl, rfl⟩, fun h2 R2 => ?_⟩
  obtain ⟨h3, e3, R3⟩ := w_X_0 R2 0
  obtain ⟨h4, e4, R4⟩ := hg h2 h3 e3 R3
  exact ⟨h4, _, e4, R4, ⟨rfl, rfl, rfl⟩, rfl, rfl, (Gd.o _).thr 0⟩
theorem both_do {G : GE} {h h1 : PH} {z z1 : Zs} {f : Option (Sum Int32 String × PH)} {okE : String → Prop} {cd : String → Int32} {g : PH → Option (Int32 × PH)} (R : Rp G z h) {r : Int32}
    (hf : f = some (.inl r, h1)) (R1 : Rp G z1 h1) (P1 : PL z1 (z.2.2.2 bV) (z.2.2.2 bX) (z.2.2.2 bO)) (hg : ∀ h2 h3, sF 9 h2 (z1.2.2.2 bX) 0 (.int 0) = some h3 → Rp G (uI (uO z1 0 r.toInt64) 0 1 0 0) h3 → ∃ h4 z4, g h2 = some (r, h4) ∧ Rp G z4 h4 ∧ PL z4 (z.2.2.2 bV) (z.2.2.2 bX) (z.2.2.2 bO) ∧ z4.1 0 1 0 = 0 ∧ z4.2.2.1 0 = r.toInt64 ∧ Good z4) :
    stX G (z.2.2.2 bV) (z.2.2.2 bX) (z.2.2.2 bO) f okE cd g h (IV G (z.2.2.2 bV) (z.2.2.2 bX) (z.2.2.2 bO)) := by
  refine both_ok R ⟨rfl, rfl, rfl⟩ (r := r) ⟨h1, z1, hf, R1, P1, fun h2 R2 => ?_⟩
  obtain ⟨h3, e3, R3⟩ := w_X_0 R2 0
  exact hg h2 h3 e3 R3
theorem Rp.n0 {G : GE} {z : Zs} {v : Int32} {w : Int64} {h : PH} (R : Rp G (uI (uO z 0 w) 0 1 0 v) h) : NF z h := R.nf
theorem eq_wt {n W H0 ne : Nat} {z : Zs} (S : SimH n W H0 ne z false z false) {w k : Nat} (hw : w < z.2.1 0) (hk : k < 3) : kWT (z.1 1 w 0) (z.1 1 w 1) (z.1 1 w 2) (nI k) = mWT z w k := by
  have h0 := S.1.2.2.2.1 w
  have e0 : z.1 1 w 0 = z.1 11 0 w := h0 0 hw (by decide)
  have e1 : z.1 1 w 1 = z.1 11 1 w := h0 1 hw (by decide)
  have e2 : z.1 1 w 2 = z.1 11 2 w := h0 2 hw (by decide)
  rw [e0, e1, e2]
  unfold kWT mWT
  match k, hk with
  | 0, _ => simp only [if_pos (show nI 0 = 0 from rfl), if_true]
  | 1, _ => simp only [if_neg (show ¬ nI 1 = 0 by decide), if_pos (show nI 1 = 1 from rfl), if_neg (show ¬ 1 = 0 by decide), if_true]
  | 2, _ => simp only [if_neg (show ¬ nI 2 = 0 by decide), if_neg (show ¬ nI 2 = 1 by decide), if_neg (show ¬ 2 = 0 by decide), if_neg (show ¬ 2 = 1 by decide)]
theorem ls_wind {G : GE} {x y o : Nat} : LS_wind G x y o (IV G x y o) := by
  rintro h ⟨z, R, ⟨rfl, rfl, rfl⟩, Gd⟩ a0 a1
  have Gd' := Gd
  obtain ⟨n, W, H0, ne, S, g1, g2, g3, g4, g5, g6, g7, g8, g9⟩ := Gd
  have H := S.2.1
  have C := H.1
  by_cases c0 : 0 ≤ a0
  · by_cases c1 : isW 0 2 a1
    · obtain ⟨k, -, hk, rfl⟩ := isW_nat (a := 0) (b := 2) (by decide) (by decide) c1
      obtain ⟨t, ht, rfl⟩ := nI_of (Int32.not_lt.mpr c0)
      have hw := H.wi t
      refine both_ask R Gd' (r := kWT (z.1 1 (t % z.2.1 0) 0) (z.1 1 (t % z.2.1 0) 1) (z.1 1 (t % z.2.1 0) 2) (nI k)) ?_ (fun h2 h3 e3 R3 => ⟨h3, ?_, R3⟩)
      · simp only [f_X6_wind, if_pos c0, (s_wI c1).1, bd_s, if_neg ne10, c_oV R, rd_s, s_windAt R C ht, c_own R hw, s_wtell R hw]
      · obtain ⟨i9, x1, x2, i8, -⟩ := R3.n0
        have g1' : gI 8 h3 (z.2.2.2 (bst false)) 1 = some (z.1 10 0 1) := g_st_1 (z := uI (uO z 0 _) 0 1 0 0) R3
        have hW : z.1 10 0 1 = nI (z.2.1 0) := by rw [S.2.2.1]; exact S.2.2.2.1.2.2.1
        have hW1 : 1 ≤ z.2.1 0 := C.2.1
        have hW2 : z.2.1 0 ≤ 24 := C.2.2.1
        have q : f_X8_windTold G (z.2.2.2 bX) (nI (t % z.2.1 0)) (nI k) h3 = some (mWT z (t % z.2.1 0) k, h3) := s_windTold (z := uI (uO z 0 _) 0 1 0 0) R3 (show t % z.2.1 0 < 24 by omega) (show k < 3 by omega)
        have hz : ¬ nI (z.2.1 0) = 0 := fun e => by
          have := congrArg Int32.toInt e
          rw [nI_toInt (by omega), show (0 : Int32) = nI 0 from rfl, nI_toInt (by omega)] at this
          omega
        simp only [f_X8_wind, e3, rd_s, if_pos c0, (s_wI c1).2, bd_s, if_neg ne10, x1, g1', hW, nz, if_neg hz, i9, nI_rem ht (show 0 < z.2.1 0 by omega) (show z.2.1 0 < 2 ^ 31 by omega), q]
        rw [eq_wt S hw (show k < 3 by omega)]
    · refine both_no R Gd' (E := "java/lang/IndexOutOfBoundsException") 2 ?_ (by decide) (by decide) (fun h2 h3 h4 e3 R3 i9 e4 => ?_)
      · simp only [f_X6_wind, if_pos c0, (s_wO c1).1, bd_s, if_true]
      · simp only [f_X8_wind, e3, rd_s, if_pos c0, (s_wO c1).2, bd_s, if_true, i9, e4]
  · refine both_no R Gd' (E := "java/lang/IllegalArgumentException") 1 ?_ (by decide) (by decide) (fun h2 h3 h4 e3 R3 i9 e4 => ?_)
    · simp only [f_X6_wind, if_neg c0]
    · simp only [f_X8_wind, e3, rd_s, if_neg c0, bd_s, i9, e4]
