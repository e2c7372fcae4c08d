/-! ===== the law: its loop, and from its entry ===== -/
def LS_beginWind (G : GE) (x y z : Nat) (Inv : PH → Prop) : Prop := ∀ h, Inv h → ∀ (a0 a1 a2 : Int32), (a2 = 0 ∨ a2 = 1) → stX G x y z (f_X6_beginWind G x a0 a1 a2 h) okE_L_beginWind cd_L_beginWind (fun h => f_X8_beginWind G y a0 a1 a2 h) h Inv
def LS_addWind (G : GE) (x y z : Nat) (Inv : PH → Prop) : Prop := ∀ h, Inv h → ∀ (a0 a1 a2 : Int32), (a2 = 0 ∨ a2 = 1) → stX G x y z (f_X6_addWind G x a0 a1 a2 h) okE_L_addWind cd_L_addWind (fun h => f_X8_addWind G y a0 a1 a2 h) h Inv
def LS_wind (G : GE) (x y z : Nat) (Inv : PH → Prop) : Prop := ∀ h, Inv h → ∀ (a0 a1 : Int32), stX G x y z (f_X6_wind G x a0 a1 h) okE_L_wind cd_L_wind (fun h => f_X8_wind G y a0 a1 h) h Inv
def LS_setUp (G : GE) (x y z : Nat) (Inv : PH → Prop) : Prop := ∀ h, Inv h → ∀ (a0 a1 a2 a3 a4 a5 : Int32), stX G x y z (f_X6_setUp G x a0 a1 a2 a3 a4 a5 h) okE_L_setUp cd_L_setUp (fun h => f_X8_setUp G y a0 a1 a2 a3 a4 a5 h) h Inv
def LS_oil (G : GE) (x y z : Nat) (Inv : PH → Prop) : Prop := ∀ h, Inv h → ∀ (a0 : Int32), stX G x y z (f_X6_oil G x a0 h) okE_L_oil cd_L_oil (fun h => f_X8_oil G y a0 h) h Inv
def LS_turn (G : GE) (x y z : Nat) (Inv : PH → Prop) : Prop := ∀ h, Inv h → ∀ (a0 a1 : Int32), stX G x y z (f_X6_turn G x a0 a1 h) okE_L_turn cd_L_turn (fun h => f_X8_turn G y a0 a1 h) h Inv
def LS_vane (G : GE) (x y z : Nat) (Inv : PH → Prop) : Prop := ∀ h, Inv h → ∀ (a0 a1 : Int32), stX G x y z (f_X6_vane G x a0 a1 h) okE_L_vane cd_L_vane (fun h => f_X8_vane G y a0 a1 h) h Inv
def LS_difference (G : GE) (x y z : Nat) (Inv : PH → Prop) : Prop := ∀ h, Inv h → ∀ (a0 a1 : Int32), stX G x y z (f_X6_difference G x a0 a1 h) okE_L_difference cd_L_difference (fun h => f_X8_difference G y a0 a1 h) h Inv
def LS_move (G : GE) (x y z : Nat) (Inv : PH → Prop) : Prop := ∀ h, Inv h → ∀ (a0 a1 a2 a3 : Int32), stX G x y z (f_X6_move G x a0 a1 a2 a3 h) okE_L_move cd_L_move (fun h => f_X8_move G y a0 a1 a2 a3 h) h Inv
def LS_put (G : GE) (x y z : Nat) (Inv : PH → Prop) : Prop := ∀ h, Inv h → ∀ (a0 a1 : Int32), stX G x y z (f_X6_put G x a0 a1 h) okE_L_put cd_L_put (fun h => f_X8_put G y a0 a1 h) h Inv
def LS_motion (G : GE) (x y z : Nat) (Inv : PH → Prop) : Prop := ∀ h, Inv h → ∀ (a0 a1 : Int32), stX G x y z (f_X6_motion G x a0 a1 h) okE_L_motion cd_L_motion (fun h => f_X8_motion G y a0 a1 h) h Inv
def LS_stand (G : GE) (x y z : Nat) (Inv : PH → Prop) : Prop := ∀ h, Inv h → ∀ (a0 a1 : Int32), stX G x y z (f_X6_stand G x a0 a1 h) okE_L_stand cd_L_stand (fun h => f_X8_stand G y a0 a1 h) h Inv
def LS_pass (G : GE) (x y z : Nat) (Inv : PH → Prop) : Prop := ∀ h, Inv h → ∀ (a0 : Int32), stX G x y z (f_X6_pass G x a0 h) okE_L_pass cd_L_pass (fun h => f_X8_pass G y a0 h) h Inv
def LS_count (G : GE) (x y z : Nat) (Inv : PH → Prop) : Prop := ∀ h, Inv h → ∀ (a0 : Int32), stX G x y z (f_X6_count G x a0 h) okE_L_count cd_L_count (fun h => f_X8_count G y a0 h) h Inv
def LS_party (G : GE) (x y z : Nat) (Inv : PH → Prop) : Prop := ∀ h, Inv h → ∀ (a0 a1 : Int32), stX G x y z (f_X6_party G x a0 a1 h) okE_L_party cd_L_party (fun h => f_X8_party G y a0 a1 h) h Inv
def LS_coalition (G : GE) (x y z : Nat) (Inv : PH → Prop) : Prop := ∀ h, Inv h → stY x y (f_X6_coalition G x h) (fun h => f_X8_coalition G y h) (fun r b => r = b) h Inv
def LS_foresee (G : GE) (x y z : Nat) (Inv : PH → Prop) : Prop := ∀ h, Inv h → ∀ (a0 a1 : Int32), stX G x y z (f_X6_foresee G x a0 a1 h) okE_L_foresee cd_L_foresee (fun h => f_X8_foresee G y a0 a1 h) h Inv
def LS_passes (G : GE) (x y z : Nat) (Inv : PH → Prop) : Prop := ∀ h, Inv h → ∀ (a0 a1 : Int32), stX G x y z (f_X6_passes G x a0 a1 h) okE_L_passes cd_L_passes (fun h => f_X8_passes G y a0 a1 h) h Inv
def LS_advise (G : GE) (x y z : Nat) (Inv : PH → Prop) : Prop := ∀ h, Inv h → ∀ (a0 a1 : Int32), stX G x y z (f_X6_advise G x a0 a1 h) okE_L_advise cd_L_advise (fun h => f_X8_advise G y a0 a1 h) h Inv
def LS_discord (G : GE) (x y z : Nat) (Inv : PH → Prop) : Prop := ∀ h, Inv h → stY x y (f_X6_discord G x h) (fun h => f_X8_discord G y h) (fun r b => Op.cmpValue (FP.dcmp r b) CmpOp.l = 0) h Inv
def LS_digest (G : GE) (x y z : Nat) (Inv : PH → Prop) : Prop := ∀ h, Inv h → stY x y (f_X6_digest G x h) (fun h => f_X8_digest G y h) (fun r b => r = b) h Inv
def LawSteps (G : GE) (x y z : Nat) (Inv : PH → Prop) : Prop := LS_beginWind G x y z Inv ∧ LS_addWind G x y z Inv ∧ LS_wind G x y z Inv ∧ LS_setUp G x y z Inv ∧ LS_oil G x y z Inv ∧ LS_turn G x y z Inv ∧ LS_vane G x y z Inv ∧ LS_difference G x y z Inv ∧ LS_move G x y z Inv ∧ LS_put G x y z Inv ∧ LS_motion G x y z Inv ∧ LS_stand G x y z Inv ∧ LS_pass G x y z Inv ∧ LS_count G x y z Inv ∧ LS_party G x y z Inv ∧ LS_coalition G x y z Inv ∧ LS_foresee G x y z Inv ∧ LS_passes G x y z Inv ∧ LS_advise G x y z Inv ∧ LS_discord G x y z Inv ∧ LS_digest G x y z Inv
set_option maxRecDepth 100000 in
set_option maxHeartbeats 4000000 in
theorem law_loop {G : GE} {p : Program} {l : Launch} {e : Env} {s : State} {m : MethodId} {args : Array Value} {below : List Frame} {meth : Method} {c : Code} {Q : State → Prop} {b L : Nat} {xs : Nat → Int32} {x y z : Nat}
    (X : Cx G p s m args meth c cL_law 9 "VaneHouseLaw" meth.name ret) (hX : va_X b L xs s s.heap) (hbl : b < s.heap.size) (hbA : ¬ gB G ≤ b) (hL : L ≤ 3584) (hfl : l.stackTraces = false) (Inv : PH → Prop) (HS : LawSteps G x y z Inv)
    (hend : ∀ (h : PH) (H : Heap) (locs : List Loc) (ls : Array Slot) (cells slots : Nat), Hx G s h H locs → cells ≤ 601024 → slots ≤ 7293034 → W p l e room_1 s m args below meth c H locs cells slots Q (F0 m 1532 ls [])) :
    ∀ (n k : Nat), k + n = 513 → ∀ (h : PH) (H : Heap) (locs : List Loc) (ls : Array Slot), Inv h → Hx G s h H locs → lv_has ls 9 [(0, .ref b), (1, .ref x), (2, .ref y), (3, .ref z), (4, .int (nI (7 * k)))] → W p l e room_1 s m args below meth c H locs (100 + 20 * k) (2000 + 240 * k) Q (F0 m 23 ls []) := by
  have hx := X.1
  have hb := X.2.1
  obtain ⟨h_beginWind, h_addWind, h_wind, h_setUp, h_oil, h_turn, h_vane, h_difference, h_move, h_put, h_motion, h_stand, h_pass, h_count, h_party, h_coalition, h_foresee, h_passes, h_advise, h_discord, h_digest⟩ := HS
  intro n
  induction n with
  | zero =>
    intro k hk h H locs ls hI hH hl
    refine lv_iload hx hb dL_law_23 (lv_at hl 4 rfl) ?_
    refine lv_aload_n hx hb dL_law_25 rfl (lv_at hl 0 rfl) ?_
    refine va_slen hx hb hX hbl hbA (Hx.S X hH) dL_law_26 ?_
    refine lv_bipush (v := 7) hx hb dL_law_27 (by decide) ?_
    refine lv_isub hx hb dL_law_29 ?_
    refine lv_icmp_gt (tgt := 1532) hx hb dL_law_30 (by decide) (fun _ => hend h H locs ls _ _ hH (by omega) (by omega)) (fun z0 => absurd ?_ z0)
    show nI L - nI 7 < nI (7 * k)
    rw [Int32.lt_iff_toInt_lt, pk_sub_toInt (by omega) (by omega), nI_toInt (by omega)]
    omega
  | succ n ih =>
    intro k hk h H locs ls hI hH hl
    refine lv_iload hx hb dL_law_23 (lv_at hl 4 rfl) ?_
    refine lv_aload_n hx hb dL_law_25 rfl (lv_at hl 0 rfl) ?_
    refine va_slen hx hb hX hbl hbA (Hx.S X hH) dL_law_26 ?_
    refine lv_bipush (v := 7) hx hb dL_law_27 (by decide) ?_
    refine lv_isub hx hb dL_law_29 ?_
    refine lv_icmp_gt (tgt := 1532) hx hb dL_law_30 (by decide) (fun _ => hend h H locs ls _ _ hH (by omega) (by omega)) (fun z0 => ?_)
    have hj : 7 * k + 7 ≤ L := by
      rcases Nat.lt_or_ge L (7 * k + 7) with q | q
      · refine absurd ?_ z0
        show nI L - nI 7 < nI (7 * k)
        rw [Int32.lt_iff_toInt_lt, pk_sub_toInt (by omega) (by omega), nI_toInt (by omega)]
        omega
      · exact q
    have kk : ∀ (h' : PH) (H' : Heap) (locs' : List Loc) (ls' : Array Slot), Inv h' → Hx G s h' H' locs' → lv_has ls' 9 [(0, .ref b), (1, .ref x), (2, .ref y), (3, .ref z), (4, .int (nI (7 * k)))] → W p l e room_1 s m args below meth c H' locs' (100 + 20 * k + 20) (2000 + 240 * k + 240) Q (F0 m 1526 ls' []) := by
      intro h' H' locs' ls' hI' hH' hl'
      refine lv_iinc (v := nI (7 * (k + 1))) (lv' := [(4, .int (nI (7 * (k + 1)))), (0, .ref b), (1, .ref x), (2, .ref y), (3, .ref z)]) hx hb dL_law_1526 hl' (k := 4) rfl (nI_add (7 * k) 7) (by decide) rfl (fun ls2 hl2 => ?_)
      refine lv_goto (tgt := 23) hx hb dL_law_1529 (by decide) ?_
      exact ih (k + 1) (by omega) h' H' locs' ls2 hI' hH' (lv_sub hl2 [1, 2, 3, 4, 0] rfl)
    refine lv_aload_n hx hb dL_law_33 rfl (lv_at hl 0 rfl) ?_
    refine lv_iload hx hb dL_law_34 (lv_at hl 4 rfl) ?_
    refine p_sld X hH hX hbl hbA hL (j := 7 * k) rfl (by omega) dL_law_36 ?_
    refine lv_bipush (v := 31) hx hb dL_law_37 (by decide) ?_
    refine lv_iand hx hb dL_law_39 ?_
    generalize hw : xs (7 * k) &&& 31 = w
    by_cases g0 : w = (0 : Int32)
    · refine p_tin X dL_law_40 g0 (by decide) (by decide) rfl (tgt := 140) (by decide) ?_
      exact lc_beginWind X hX hbl hbA hL hfl rfl hj Inv hH hl (fun _ => h_beginWind h hI _ _ 0 (Or.inl rfl)) (fun _ => h_beginWind h hI _ _ 1 (Or.inr rfl)) (by omega) (by omega) kk
    by_cases g1 : w = (1 : Int32)
    · refine p_tin X dL_law_40 g1 (by decide) (by decide) rfl (tgt := 236) (by decide) ?_
      exact lc_addWind X hX hbl hbA hL hfl rfl hj Inv hH hl (fun _ => h_addWind h hI _ _ 0 (Or.inl rfl)) (fun _ => h_addWind h hI _ _ 1 (Or.inr rfl)) (by omega) (by omega) kk
    by_cases g2 : w = (2 : Int32)
    · refine p_tin X dL_law_40 g2 (by decide) (by decide) rfl (tgt := 332) (by decide) ?_
      exact lc_wind X hX hbl hbA hL hfl rfl hj Inv hH hl (h_wind h hI _ _) (by omega) (by omega) kk
    by_cases g3 : w = (3 : Int32)
    · refine p_tin X dL_law_40 g3 (by decide) (by decide) rfl (tgt := 400) (by decide) ?_
      exact lc_setUp X hX hbl hbA hL hfl rfl hj Inv hH hl (h_setUp h hI _ _ _ _ _ _) (by omega) (by omega) kk
    by_cases g4 : w = (4 : Int32)
    · refine p_tin X dL_law_40 g4 (by decide) (by decide) rfl (tgt := 518) (by decide) ?_
      exact lc_oil X hX hbl hbA hL hfl rfl hj Inv hH hl (h_oil h hI _) (by omega) (by omega) kk
    by_cases g5 : w = (5 : Int32)
    · refine p_tin X dL_law_40 g5 (by decide) (by decide) rfl (tgt := 574) (by decide) ?_
      exact lc_turn X hX hbl hbA hL hfl rfl hj Inv hH hl (h_turn h hI _ _) (by omega) (by omega) kk
    by_cases g6 : w = (6 : Int32)
    · refine p_tin X dL_law_40 g6 (by decide) (by decide) rfl (tgt := 642) (by decide) ?_
      exact lc_vane X hX hbl hbA hL hfl rfl hj Inv hH hl (h_vane h hI _ _) (by omega) (by omega) kk
    by_cases g7 : w = (7 : Int32)
    · refine p_tin X dL_law_40 g7 (by decide) (by decide) rfl (tgt := 710) (by decide) ?_
      exact lc_difference X hX hbl hbA hL hfl rfl hj Inv hH hl (h_difference h hI _ _) (by omega) (by omega) kk
    by_cases g8 : w = (8 : Int32)
    · refine p_tin X dL_law_40 g8 (by decide) (by decide) rfl (tgt := 778) (by decide) ?_
      exact lc_move X hX hbl hbA hL hfl rfl hj Inv hH hl (h_move h hI _ _ _ _) (by omega) (by omega) kk
    by_cases g9 : w = (9 : Int32)
    · refine p_tin X dL_law_40 g9 (by decide) (by decide) rfl (tgt := 870) (by decide) ?_
      exact lc_put X hX hbl hbA hL hfl rfl hj Inv hH hl (h_put h hI _ _) (by omega) (by omega) kk
    by_cases g10 : w = (10 : Int32)
    · refine p_tin X dL_law_40 g10 (by decide) (by decide) rfl (tgt := 938) (by decide) ?_
      exact lc_motion X hX hbl hbA hL hfl rfl hj Inv hH hl (h_motion h hI _ _) (by omega) (by omega) kk
    by_cases g11 : w = (11 : Int32)
    · refine p_tin X dL_law_40 g11 (by decide) (by decide) rfl (tgt := 1006) (by decide) ?_
      exact lc_stand X hX hbl hbA hL hfl rfl hj Inv hH hl (h_stand h hI _ _) (by omega) (by omega) kk
    by_cases g12 : w = (12 : Int32)
    · refine p_tin X dL_law_40 g12 (by decide) (by decide) rfl (tgt := 1074) (by decide) ?_
      exact lc_pass X hX hbl hbA hL hfl rfl hj Inv hH hl (h_pass h hI _) (by omega) (by omega) kk
    by_cases g13 : w = (13 : Int32)
    · refine p_tin X dL_law_40 g13 (by decide) (by decide) rfl (tgt := 1130) (by decide) ?_
      exact lc_count X hX hbl hbA hL hfl rfl hj Inv hH hl (h_count h hI _) (by omega) (by omega) kk
    by_cases g14 : w = (14 : Int32)
    · refine p_tin X dL_law_40 g14 (by decide) (by decide) rfl (tgt := 1186) (by decide) ?_
      exact lc_party X hX hbl hbA hL hfl rfl hj Inv hH hl (h_party h hI _ _) (by omega) (by omega) kk
    by_cases g15 : w = (15 : Int32)
    · refine p_tin X dL_law_40 g15 (by decide) (by decide) rfl (tgt := 1254) (by decide) ?_
      exact lc_coalition X hX hbl hbA hL hfl Inv hH hl (h_coalition h hI) (by omega) (by omega) kk
    by_cases g16 : w = (16 : Int32)
    · refine p_tin X dL_law_40 g16 (by decide) (by decide) rfl (tgt := 1267) (by decide) ?_
      exact lc_foresee X hX hbl hbA hL hfl rfl hj Inv hH hl (h_foresee h hI _ _) (by omega) (by omega) kk
    by_cases g17 : w = (17 : Int32)
    · refine p_tin X dL_law_40 g17 (by decide) (by decide) rfl (tgt := 1335) (by decide) ?_
      exact lc_passes X hX hbl hbA hL hfl rfl hj Inv hH hl (h_passes h hI _ _) (by omega) (by omega) kk
    by_cases g18 : w = (18 : Int32)
    · refine p_tin X dL_law_40 g18 (by decide) (by decide) rfl (tgt := 1403) (by decide) ?_
      exact lc_advise X hX hbl hbA hL hfl rfl hj Inv hH hl (h_advise h hI _ _) (by omega) (by omega) kk
    by_cases g19 : w = (19 : Int32)
    · refine p_tin X dL_law_40 g19 (by decide) (by decide) rfl (tgt := 1471) (by decide) ?_
      exact lc_discord X hX hbl hbA hL hfl Inv hH hl (h_discord h hI) (by omega) (by omega) kk
    by_cases g20 : w = (20 : Int32)
    · refine p_tin X dL_law_40 g20 (by decide) (by decide) rfl (tgt := 1512) (by decide) ?_
      exact lc_digest X hX hbl hbA hL hfl Inv hH hl (h_digest h hI) (by omega) (by omega) kk
    refine p_tout (N := 20) X dL_law_40 (by decide) (fun j hj => by match j, hj with | 0, _ => exact g0 | 1, _ => exact g1 | 2, _ => exact g2 | 3, _ => exact g3 | 4, _ => exact g4 | 5, _ => exact g5 | 6, _ => exact g6 | 7, _ => exact g7 | 8, _ => exact g8 | 9, _ => exact g9 | 10, _ => exact g10 | 11, _ => exact g11 | 12, _ => exact g12 | 13, _ => exact g13 | 14, _ => exact g14 | 15, _ => exact g15 | 16, _ => exact g16 | 17, _ => exact g17 | 18, _ => exact g18 | 19, _ => exact g19 | 20, _ => exact g20 | j + 21, hj => omega) (tgt := 1526) (by decide) ?_
    exact W.widen (by omega) (by omega) (kk h H locs ls hI hH hl)
