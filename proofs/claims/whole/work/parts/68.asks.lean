/-! ===== calls that only ask: vane, motion, count, party ===== -/
theorem ls_vane {G : GE} {x y o : Nat} : LS_vane G x y o (IV G x y o) := by
  rintro h ⟨z, R, ⟨rfl, rfl, rfl⟩, Gd⟩ a0 a1
  have Gd' := Gd
  obtain ⟨n, W, H0, ne, S, g1, g2, g3, g4, g5, g6, g7, g8, g9⟩ := Gd
  have H := S.2.1
  have C := H.1
  have M := S.2.2.2.1
  have h16 := (C.t false).2.2.2
  have h12 := C.2.2.2.2.1
  have hn : z.1 10 0 5 = nI n := M.1
  have hw := H.wi H0
  have h31 : H0 < 2 ^ 31 := by omega
  by_cases c0 : isB n a0
  · have c0' := c0
    obtain ⟨v, hv, rfl⟩ := c0
    by_cases c1 : isW 0 11 a1
    · obtain ⟨k, -, hk, rfl⟩ := isW_nat (a := 0) (b := 11) (by decide) (by decide) c1
      refine both_ask R Gd' (r := kVT z false v (H0 % z.2.1 0) (nI k)) ?_ (fun h2 h3 e3 R3 => ⟨h3, ?_, R3⟩)
      · simp only [f_X6_vane, c_oV R, rd_s, (V_in R R C hn c0').1, bd_s, if_neg ne10, (s_wI c1).1, g_V_4 R, g_tn_0 R, c_oL R (lb_lt _), s_getv R (C.t false) hv, c_ovn R ((C.t false).v hv), s_V6 R g1, s_windAt R C h31, s_vtell R ((C.t false).v hv) ((C.t false).m hv) hw (H.2.1 _ hw)]
      · obtain ⟨i9, x1, x2, i8, -⟩ := R3.n0
        have q1 : f_X8_isVane G (z.2.2.2 bX) (nI v) h3 = some (1, h3) := (V_in (z := z) (z' := uI (uO z 0 _) 0 1 0 0) R R3 C hn c0').2
        have q : f_X8_vaneTold G (z.2.2.2 bX) (nI v) (nI k) h3 = some (mVT z v n (H0 % W) k, h3) := s_vaneTold (z := uI (uO z 0 _) 0 1 0 0) R3 (n := n) (W := W) (t := H0) M (show v < 16 by omega) (show k < 12 by omega)
        simp only [f_X8_vane, e3, rd_s, i9, q1, (s_wI c1).2, bd_s, if_neg ne10, q, f_X8_vane_b37]
        rw [S.2.2.1, eq_vt S hv (show k < 12 by omega)]
    · refine both_no R Gd' (E := "java/lang/IndexOutOfBoundsException") 1 ?_ (by decide) (by decide) (fun h2 h3 h4 e3 R3 i9 e4 => ?_)
      · simp only [f_X6_vane, c_oV R, rd_s, (V_in R R C hn c0').1, bd_s, if_neg ne10, (s_wO c1).1, if_true]
      · have q1 : f_X8_isVane G (z.2.2.2 bX) (nI v) h3 = some (1, h3) := (V_in (z := z) (z' := uI z 0 1 0 0) R R3 C hn c0').2
        simp only [f_X8_vane, e3, rd_s, i9, q1, (s_wO c1).2, bd_s, if_true, if_neg ne10, f_X8_vane_b32, e4, f_X8_vane_b37]
  · refine both_no R Gd' (E := "java/lang/IndexOutOfBoundsException") 1 ?_ (by decide) (by decide) (fun h2 h3 h4 e3 R3 i9 e4 => ?_)
    · simp only [f_X6_vane, c_oV R, rd_s, (V_out R R C hn c0).1, bd_s, if_true]
    · have q1 : f_X8_isVane G (z.2.2.2 bX) a0 h3 = some (0, h3) := (V_out (z := z) (z' := uI z 0 1 0 0) R R3 C hn c0).2
      simp only [f_X8_vane, e3, rd_s, i9, q1, bd_s, if_true, f_X8_vane_b32, e4, f_X8_vane_b37]
theorem ls_motion {G : GE} {x y o : Nat} : LS_motion G x y o (IV G x y o) := by
  rintro h ⟨z, R, ⟨rfl, rfl, rfl⟩, Gd⟩ a0 a1
  have Gd' := Gd
  obtain ⟨n, W, H0, ne, S, g1, g2, g3, g4, g5, g6, g7, g8, g9⟩ := Gd
  have H := S.2.1
  have C := H.1
  have M := S.2.2.2.1
  have h16 := (C.t false).2.2.2
  have h12 := C.2.2.2.2.1
  have hn : z.1 10 0 5 = nI n := M.1
  have hw := H.wi H0
  have h31 : H0 < 2 ^ 31 := by omega
  by_cases c0 : isB (z.2.1 1) a0
  · have c0' := c0
    obtain ⟨v, hv, rfl⟩ := c0
    by_cases c1 : isW 0 8 a1
    · obtain ⟨k, -, hk, rfl⟩ := isW_nat (a := 0) (b := 8) (by decide) (by decide) c1
      refine both_ask R Gd' (r := kMT z false v n (nI k)) ?_ (fun h2 h3 e3 R3 => ⟨h3, ?_, R3⟩)
      · simp only [f_X6_motion, c_oV R, rd_s, (M_in R R C g4 c0').1, bd_s, if_neg ne10, (s_wI c1).1, g_V_2 R, g_V_4 R, c_oL R (show 1 < 5 by decide), s_getm R C hv, c_omo R hv, s_mtell R (C.t false) hv]
      · obtain ⟨i9, x1, x2, i8, -⟩ := R3.n0
        have q1 : f_X8_isMotion G (z.2.2.2 bX) (nI v) h3 = some (1, h3) := (M_in (z := z) (z' := uI (uO z 0 _) 0 1 0 0) R R3 C g4 c0').2
        have q : f_X8_motionTold G (z.2.2.2 bX) (nI v) (nI k) h3 = some (mMT z v n k, h3) := s_motionTold (z := uI (uO z 0 _) 0 1 0 0) R3 (n := n) hn h16 (show v < 12 by omega) (show k < 9 by omega)
        simp only [f_X8_motion, e3, rd_s, i9, q1, (s_wI c1).2, bd_s, if_neg ne10, q, f_X8_motion_b37]
        rw [eq_mt S g5 hv (show k < 9 by omega)]
    · refine both_no R Gd' (E := "java/lang/IndexOutOfBoundsException") 1 ?_ (by decide) (by decide) (fun h2 h3 h4 e3 R3 i9 e4 => ?_)
      · simp only [f_X6_motion, c_oV R, rd_s, (M_in R R C g4 c0').1, bd_s, if_neg ne10, (s_wO c1).1, if_true]
      · have q1 : f_X8_isMotion G (z.2.2.2 bX) (nI v) h3 = some (1, h3) := (M_in (z := z) (z' := uI z 0 1 0 0) R R3 C g4 c0').2
        simp only [f_X8_motion, e3, rd_s, i9, q1, (s_wO c1).2, bd_s, if_true, if_neg ne10, f_X8_motion_b32, e4, f_X8_motion_b37]
  · refine both_no R Gd' (E := "java/lang/IndexOutOfBoundsException") 1 ?_ (by decide) (by decide) (fun h2 h3 h4 e3 R3 i9 e4 => ?_)
    · simp only [f_X6_motion, c_oV R, rd_s, (M_out R R C g4 c0).1, bd_s, if_true]
    · have q1 : f_X8_isMotion G (z.2.2.2 bX) a0 h3 = some (0, h3) := (M_out (z := z) (z' := uI z 0 1 0 0) R R3 C g4 c0).2
      simp only [f_X8_motion, e3, rd_s, i9, q1, bd_s, if_true, f_X8_motion_b32, e4, f_X8_motion_b37]
/-- nothing on the agenda is past -/
theorem ag_all {n W H0 ne : Nat} {z : Zs} (S : SimH n W H0 ne z false z false) (g6 : ∀ a, a < z.2.1 2 → nI H0 ≤ z.1 3 a 1) : ne = z.2.1 2 ∧ rowL (z.1 14) ne 0 = rowL (z.1 3) (z.2.1 2) 0 := by
  have h : rowL (z.1 14) ne 0 = (rowL (z.1 3) (z.2.1 2) 0).filter (fun e => decide (nI H0 ≤ e.2)) := S.2.2.2.2.2.2.1
  have e : (rowL (z.1 3) (z.2.1 2) 0).filter (fun e => decide (nI H0 ≤ e.2)) = rowL (z.1 3) (z.2.1 2) 0 := by
    refine List.filter_eq_self.mpr (fun e he => ?_)
    obtain ⟨i, -, hi, rfl⟩ := rowL_mem _ _ he
    exact decide_eq_true (g6 i (by omega))
  rw [e] at h
  refine ⟨?_, h⟩
  have := congrArg List.length h
  rwa [rowL_len, rowL_len] at this
theorem eq_ct {n W H0 ne : Nat} {z : Zs} (S : SimH n W H0 ne z false z false) (g1 : z.1 0 0 0 = nI H0) (g2 : H0 ≤ 2000) (g3 : z.1 0 0 1 = z.1 10 0 11) (g4 : z.1 10 0 7 = nI (z.2.1 1)) (g6 : ∀ a, a < z.2.1 2 → nI H0 ≤ z.1 3 a 1) {k : Nat} (hk : k < 9) : kTal z n (nI k) = mCt z n (H0 % W) k := by
  have M := S.2.2.2.1
  have hA := (ag_all S g6).1
  have hW : nI (z.2.1 0) = z.1 10 0 1 := by rw [S.2.2.1]; exact M.2.2.1.symm
  have hS : kStuck z false ((z.1 0 0 0).toNatClampNeg % z.2.1 0) n = mCs z n (H0 % W) n := by
    rw [g1, nI_clamp (by omega), S.2.2.1]
    exact eq_stuck S
  have hN : nI (z.2.1 2) = z.1 10 0 9 := by rw [← hA]; exact S.2.2.2.2.1.symm
  have hH : z.1 0 0 0 = z.1 10 0 0 := by rw [g1]; exact M.2.2.2.2.2.1.symm
  match k, hk with
  | 0, _ =>
    have e : kTal z n (nI 0) = z.1 0 0 0 := by
      unfold kTal
      simp only [if_pos (show nI 0 = (0 : Int32) from rfl)]
    rw [e]
    exact hH
  | 1, _ =>
    have e : kTal z n (nI 1) = nI n := by
      unfold kTal
      simp only [if_neg (show ¬ nI 1 = (0 : Int32) by decide), if_pos (show nI 1 = (1 : Int32) from rfl)]
    rw [e]
    exact M.1.symm
  | 2, _ =>
    have e : kTal z n (nI 2) = nI (z.2.1 1) := by
      unfold kTal
      simp only [if_neg (show ¬ nI 2 = (0 : Int32) by decide), if_neg (show ¬ nI 2 = (1 : Int32) by decide), if_pos (show nI 2 = (2 : Int32) from rfl)]
    rw [e]
    exact g4.symm
  | 3, _ =>
    have e : kTal z n (nI 3) = nI (z.2.1 0) := by
      unfold kTal
      simp only [if_neg (show ¬ nI 3 = (0 : Int32) by decide), if_neg (show ¬ nI 3 = (1 : Int32) by decide), if_neg (show ¬ nI 3 = (2 : Int32) by decide), if_pos (show nI 3 = (3 : Int32) from rfl)]
    rw [e]
    exact hW
  | 4, _ =>
    have e : kTal z n (nI 4) = nI (z.2.1 2) := by
      unfold kTal
      simp only [if_neg (show ¬ nI 4 = (0 : Int32) by decide), if_neg (show ¬ nI 4 = (1 : Int32) by decide), if_neg (show ¬ nI 4 = (2 : Int32) by decide), if_neg (show ¬ nI 4 = (3 : Int32) by decide), if_pos (show nI 4 = (4 : Int32) from rfl)]
    rw [e]
    exact hN
  | 5, _ =>
    have e : kTal z n (nI 5) = kOf z false 15 n := by
      unfold kTal
      simp only [if_neg (show ¬ nI 5 = (0 : Int32) by decide), if_neg (show ¬ nI 5 = (1 : Int32) by decide), if_neg (show ¬ nI 5 = (2 : Int32) by decide), if_neg (show ¬ nI 5 = (3 : Int32) by decide), if_neg (show ¬ nI 5 = (4 : Int32) by decide), if_pos (show nI 5 = (5 : Int32) from rfl)]
    rw [e]
    exact eq_all S
  | 6, _ =>
    have e : kTal z n (nI 6) = z.1 0 0 1 := by
      unfold kTal
      simp only [if_neg (show ¬ nI 6 = (0 : Int32) by decide), if_neg (show ¬ nI 6 = (1 : Int32) by decide), if_neg (show ¬ nI 6 = (2 : Int32) by decide), if_neg (show ¬ nI 6 = (3 : Int32) by decide), if_neg (show ¬ nI 6 = (4 : Int32) by decide), if_neg (show ¬ nI 6 = (5 : Int32) by decide), if_pos (show nI 6 = (6 : Int32) from rfl)]
    rw [e]
    exact g3
  | 7, _ =>
    have e : kTal z n (nI 7) = kBound z false n := by
      unfold kTal
      simp only [if_neg (show ¬ nI 7 = (0 : Int32) by decide), if_neg (show ¬ nI 7 = (1 : Int32) by decide), if_neg (show ¬ nI 7 = (2 : Int32) by decide), if_neg (show ¬ nI 7 = (3 : Int32) by decide), if_neg (show ¬ nI 7 = (4 : Int32) by decide), if_neg (show ¬ nI 7 = (5 : Int32) by decide), if_neg (show ¬ nI 7 = (6 : Int32) by decide), if_pos (show nI 7 = (7 : Int32) from rfl)]
    rw [e]
    exact eq_bound S
  | 8, _ =>
    have e : kTal z n (nI 8) = kStuck z false ((z.1 0 0 0).toNatClampNeg % z.2.1 0) n := by
      unfold kTal
      simp only [if_neg (show ¬ nI 8 = (0 : Int32) by decide), if_neg (show ¬ nI 8 = (1 : Int32) by decide), if_neg (show ¬ nI 8 = (2 : Int32) by decide), if_neg (show ¬ nI 8 = (3 : Int32) by decide), if_neg (show ¬ nI 8 = (4 : Int32) by decide), if_neg (show ¬ nI 8 = (5 : Int32) by decide), if_neg (show ¬ nI 8 = (6 : Int32) by decide), if_neg (show ¬ nI 8 = (7 : Int32) by decide)]
    rw [e]
    exact hS
theorem ls_count {G : GE} {x y o : Nat} : LS_count G x y o (IV G x y o) := by
  rintro h ⟨z, R, ⟨rfl, rfl, rfl⟩, Gd⟩ a0
  have Gd' := Gd
  obtain ⟨n, W, H0, ne, S, g1, g2, g3, g4, g5, g6, g7, g8, g9⟩ := Gd
  have H := S.2.1
  have C := H.1
  have M := S.2.2.2.1
  have h16 := (C.t false).2.2.2
  have h12 := C.2.2.2.2.1
  have hn : z.1 10 0 5 = nI n := M.1
  have hw := H.wi H0
  have h31 : H0 < 2 ^ 31 := by omega
  by_cases c1 : isW 0 8 a0
  · obtain ⟨k, -, hk, rfl⟩ := isW_nat (a := 0) (b := 8) (by decide) (by decide) c1
    refine both_ask R Gd' (r := kTal z n (nI k)) ?_ (fun h2 h3 e3 R3 => ?_)
    · simp only [f_X6_count, c_oV R, rd_s, bd_s, if_neg ne10, (s_wI c1).1, s_tally R H g1 h31]
    · obtain ⟨i9, x1, x2, i8, -⟩ := R3.n0
      obtain ⟨h4, q, R4⟩ := s_counted (z := uI (uO z 0 _) 0 1 0 0) R3 (n := n) (W := W) (t := H0) M (show k < 9 by omega)
      have q : f_X8_counted G (z.2.2.2 bX) (nI k) h3 = some (mCt z n (H0 % W) k, h4) := q
      refine ⟨h4, ?_, R4⟩
      simp only [f_X8_count, e3, rd_s, i9, (s_wI c1).2, bd_s, if_neg ne10, q, f_X8_count_b28]
      rw [eq_ct S g1 g2 g3 g4 g6 (show k < 9 by omega)]
  · refine both_no R Gd' (E := "java/lang/IndexOutOfBoundsException") 1 ?_ (by decide) (by decide) (fun h2 h3 h4 e3 R3 i9 e4 => ?_)
    · simp only [f_X6_count, bd_s, (s_wO c1).1, if_true]
    · simp only [f_X8_count, e3, rd_s, i9, (s_wO c1).2, bd_s, if_true, e4, f_X8_count_b28]
theorem ls_party {G : GE} {x y o : Nat} : LS_party G x y o (IV G x y o) := by
  rintro h ⟨z, R, ⟨rfl, rfl, rfl⟩, Gd⟩ a0 a1
  have Gd' := Gd
  obtain ⟨n, W, H0, ne, S, g1, g2, g3, g4, g5, g6, g7, g8, g9⟩ := Gd
  have H := S.2.1
  have C := H.1
  have M := S.2.2.2.1
  have h16 := (C.t false).2.2.2
  have h12 := C.2.2.2.2.1
  have hn : z.1 10 0 5 = nI n := M.1
  have hw := H.wi H0
  have h31 : H0 < 2 ^ 31 := by omega
  by_cases c0 : isW 0 3 a0
  · obtain ⟨p, -, hp, rfl⟩ := isW_nat (a := 0) (b := 3) (by decide) (by decide) c0
    by_cases c1 : isW 0 1 a1
    · obtain ⟨k, -, hk, rfl⟩ := isW_nat (a := 0) (b := 1) (by decide) (by decide) c1
      have hk : k = 0 ∨ k = 1 := by omega
      have hE := eq_of S (show p < 4 by omega)
      rcases hk with rfl | rfl
      · refine both_ask R Gd' (r := kVof z false ((1 : Int32) <<< (nI p &&& 31)) n) ?_ (fun h2 h3 e3 R3 => ⟨h3, ?_, R3⟩)
        · simp only [f_X6_party, rd_s, bd_s, if_neg ne10, (s_wI c0).1, (s_wI c1).1, if_pos (show nI 0 = 0 from rfl), g_V_4 R, c_otn R, s_vanesOf R (C.t false), f_X6_party_b65]
        · obtain ⟨i9, x1, x2, i8, -⟩ := R3.n0
          have q : f_X8_partyTold G (z.2.2.2 bX) (nI p) (nI 0) h3 = some (mPT z (nI p) (nI 0) n, h3) := s_partyTold (z := uI (uO z 0 _) 0 1 0 0) R3 hn h16 (nI p) (nI 0)
          simp only [f_X8_party, e3, rd_s, i9, (s_wI c0).2, (s_wI c1).2, bd_s, if_neg ne10, q, f_X8_party_b37]
          rw [hE.2]
          rfl
      · refine both_ask R Gd' (r := kOf z false ((1 : Int32) <<< (nI p &&& 31)) n) ?_ (fun h2 h3 e3 R3 => ⟨h3, ?_, R3⟩)
        · simp only [f_X6_party, rd_s, bd_s, if_neg ne10, (s_wI c0).1, (s_wI c1).1, if_neg (show ¬ nI 1 = 0 by decide), g_V_4 R, c_otn R, s_votesOf R (C.t false), f_X6_party_b65]
        · obtain ⟨i9, x1, x2, i8, -⟩ := R3.n0
          have q : f_X8_partyTold G (z.2.2.2 bX) (nI p) (nI 1) h3 = some (mPT z (nI p) (nI 1) n, h3) := s_partyTold (z := uI (uO z 0 _) 0 1 0 0) R3 hn h16 (nI p) (nI 1)
          simp only [f_X8_party, e3, rd_s, i9, (s_wI c0).2, (s_wI c1).2, bd_s, if_neg ne10, q, f_X8_party_b37]
          rw [hE.1]
          rfl
    · refine both_no R Gd' (E := "java/lang/IndexOutOfBoundsException") 1 ?_ (by decide) (by decide) (fun h2 h3 h4 e3 R3 i9 e4 => ?_)
      · simp only [f_X6_party, bd_s, (s_wI c0).1, if_neg ne10, (s_wO c1).1, if_true]
      · simp only [f_X8_party, e3, rd_s, i9, (s_wI c0).2, if_neg ne10, (s_wO c1).2, bd_s, if_true, e4, f_X8_party_b32, f_X8_party_b37]
  · refine both_no R Gd' (E := "java/lang/IndexOutOfBoundsException") 1 ?_ (by decide) (by decide) (fun h2 h3 h4 e3 R3 i9 e4 => ?_)
    · simp only [f_X6_party, bd_s, (s_wO c0).1, if_true]
    · simp only [f_X8_party, e3, rd_s, i9, (s_wO c0).2, bd_s, if_true, e4, f_X8_party_b32, f_X8_party_b37]
