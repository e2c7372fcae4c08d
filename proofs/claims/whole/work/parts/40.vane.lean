/-! ===== the town read, and its vanes written ===== -/
def kCast (z : Zs) (b : Bool) (m : Nat) : Nat → Int32 := sumV (fun j => z.1 (gv b) j 4 * abI (kSide (z.1 2 m 0) (z.1 2 m 1) (z.1 (gv b) j 6)))
def kLead (z : Zs) (b : Bool) (m : Nat) : Nat → Int32 := sumV (fun j => z.1 (gv b) j 4 * kSide (z.1 2 m 0) (z.1 2 m 1) (z.1 (gv b) j 6))
def kCarr (z : Zs) (b : Bool) (m n : Nat) : Int32 := if kCast z b m n < z.1 2 m 2 then 0 else if kLead z b m n ≤ 0 then 0 else 1
theorem sl_carries {G : GE} {z : Zs} {h : PH} (R : Rp G z h) {b : Bool} {n : Nat} (T : TW z b n) {m : Nat} (hm : m < z.2.1 1) : ∀ d k fuel, k + d = n → d < fuel → f_X3_carries_b7 G fuel (z.2.2.2 (btn b)) (z.2.2.2 (bmo m)) (kCast z b m k) (kLead z b m k) (nI k) h = some (kCarr z b m n, h) := by
  intro d
  induction d with
  | zero =>
    intro k fuel hk hf
    obtain ⟨fuel, rfl⟩ : ∃ q, fuel = q + 1 := ⟨fuel - 1, by omega⟩
    obtain rfl : k = n := by omega
    show f_X3_carries_b7_body G (f_X3_carries_b7 G fuel) (z.2.2.2 (btn b)) (z.2.2.2 (bmo m)) (kCast z b m k) (kLead z b m k) (nI k) h = _
    simp only [f_X3_carries_b7_body, g_tn_0 R, rd_s, bd_s, c_oL R (lb_lt b), s_szv R T, if_pos (Int32.le_refl _), g_mo_3 R hm, f_X3_carries_b104, f_X3_carries_b105, z1_0, z1_1]
    unfold kCarr
    split
    · rfl
    · split <;> rfl
  | succ d ih =>
    intro k fuel hk hf
    obtain ⟨fuel, rfl⟩ : ∃ q, fuel = q + 1 := ⟨fuel - 1, by omega⟩
    have hkn : k < n := by omega
    have h16 := T.2.2.2
    have hv := T.v hkn
    have hms := T.m hkn
    have ih := ih (k + 1) fuel (by omega) (by omega)
    show f_X3_carries_b7_body G (f_X3_carries_b7 G fuel) (z.2.2.2 (btn b)) (z.2.2.2 (bmo m)) (kCast z b m k) (kLead z b m k) (nI k) h = _
    simp only [f_X3_carries_b7_body, g_tn_0 R, rd_s, bd_s, c_oL R (lb_lt b), s_szv R T, if_neg (nI_ge hkn (by omega)), s_getv R T hkn, c_ovn R hv, c_omo R hm, s_sideOf R hm hv, g_vn_1 R hv, nI_1]
    exact ih
theorem s_carries {G : GE} {z : Zs} {h : PH} (R : Rp G z h) {b : Bool} {n : Nat} (T : TW z b n) {m : Nat} (hm : m < z.2.1 1) : f_X3_carries G (z.2.2.2 (btn b)) (z.2.2.2 (bmo m)) h = some (kCarr z b m n, h) :=
  sl_carries R T hm n 0 LF (by omega) (by have := T.2.2.2; unfold LF; omega)
theorem kCarr_01 (z : Zs) (b : Bool) (m n : Nat) : kCarr z b m n = 0 ∨ kCarr z b m n = 1 := by
  unfold kCarr
  split
  · exact Or.inl rfl
  · split
    · exact Or.inl rfl
    · exact Or.inr rfl
def kMT (z : Zs) (b : Bool) (m n : Nat) (x : Int32) : Int32 :=
  if x = (0 : Int32) then z.1 2 m 0 else if x = (1 : Int32) then z.1 2 m 1 else if x = (2 : Int32) then z.1 2 m 2 else if x = (3 : Int32) then z.1 2 m 3 else if x = (4 : Int32) then kVotes z b m 1 n else if x = (5 : Int32) then kVotes z b m (-1) n else if x = (6 : Int32) then kCarr z b m n else if x = (7 : Int32) then z.1 2 m 4 else z.1 2 m 5
theorem s_mtell {G : GE} {z : Zs} {h : PH} (R : Rp G z h) {b : Bool} {n : Nat} (T : TW z b n) {m : Nat} (hm : m < z.2.1 1) (x : Int32) : f_X2_tell G (z.2.2.2 (bmo m)) x (z.2.2.2 (btn b)) h = some (kMT z b m n x, h) := by
  have h6 : (if kCarr z b m n = 0 then (some ((0 : Int32), h)) else some ((1 : Int32), h)) = some (kCarr z b m n, h) := by
    rcases kCarr_01 z b m n with e | e <;> rw [e] <;> rfl
  simp only [f_X2_tell, g_mo_1 R hm, g_mo_2 R hm, g_mo_3 R hm, g_mo_4 R hm, g_mo_5 R hm, g_mo_6 R hm, rd_s, bd_s, c_otn R, s_votesOnSide R T hm, s_carries R T hm, f_X2_tell_b95, h6]
  unfold kMT
  repeat' split
  all_goals rfl
theorem ite_sm {α : Type} {c : Prop} [Decidable c] (x y : α) (h : PH) : (if c then some (x, h) else some (y, h)) = some (if c then x else y, h) := by split <;> rfl
def kVT (z : Zs) (b : Bool) (j w : Nat) (x : Int32) : Int32 :=
  if x = (0 : Int32) then z.1 4 j 0 else if x = (1 : Int32) then z.1 4 j 1 else if x = (2 : Int32) then z.1 4 j 2 else if x = (3 : Int32) then z.1 4 j 3 else if x = (4 : Int32) then z.1 (gv b) j 4 else if x = (5 : Int32) then z.1 (gv b) j 5 else if x = (6 : Int32) then z.1 (gv b) j 6 else if x = (7 : Int32) then z.1 (gv b) j 7 else if x = (8 : Int32) then z.1 (gv b) j 8 else if x = (9 : Int32) then kParty (z.1 (gv b) j 6) else if x = (10 : Int32) then kWind z j w else kLee z j (z.1 1 w 0)
theorem s_vtell {G : GE} {z : Zs} {h : PH} (R : Rp G z h) {b : Bool} {j w : Nat} (hv : j < z.2.1 (nv b)) (hj : j < z.2.1 3) (hw : w < z.2.1 0) (hd : isD (z.1 1 w 0)) (x : Int32) : f_X4_tell G (z.2.2.2 (bvn b j)) x (z.2.2.2 (bwn w)) h = some (kVT z b j w x, h) := by
  simp only [f_X4_tell, g_vn_0 R hv, g_vn_1 R hv, g_vn_2 R hv, g_vn_3 R hv, g_vn_4 R hv, g_vn_5 R hv, g_ms_0 R hj, g_ms_1 R hj, g_ms_2 R hj, g_ms_3 R hj, rd_s, bd_s, c_ovn R hv, c_oms R hj, s_partyNumber R hv, s_windHere R hv hj hw hd, s_leeOf R hj hw hd]
  simp only [ite_sm]
  rfl
def kWT (d s r x : Int32) : Int32 := if x = 0 then d else if x = 1 then s else if r = 0 then 0 else 1
theorem s_wtell {G : GE} {z : Zs} {h : PH} (R : Rp G z h) {w : Nat} (hw : w < z.2.1 0) (x : Int32) : f_X5_tell G (z.2.2.2 (bwn w)) x h = some (kWT (z.1 1 w 0) (z.1 1 w 1) (z.1 1 w 2) x, h) := by
  simp only [f_X5_tell, g_wn_0 R hw, g_wn_1 R hw, g_wn_2 R hw, rd_s, f_X5_tell_b50]
  unfold kWT
  repeat' split
  all_goals rfl
/-- is a place taken -/
def kHas (z : Zs) (x y : Int32) : Nat → Nat → Int32
  | 0, _ => 0
  | d + 1, k => if z.1 4 k 0 = x ∧ z.1 4 k 1 = y then 1 else kHas z x y d (k + 1)
theorem sl_hasOneAt {G : GE} {z : Zs} {h : PH} (R : Rp G z h) {b : Bool} {n : Nat} (T : TW z b n) (x y : Int32) : ∀ d k fuel, k + d = n → d < fuel → f_X3_hasOneAt_b2 G fuel (z.2.2.2 (btn b)) x y (nI k) h = some (kHas z x y d k, h) := by
  intro d
  induction d with
  | zero =>
    intro k fuel hk hf
    obtain ⟨fuel, rfl⟩ : ∃ q, fuel = q + 1 := ⟨fuel - 1, by omega⟩
    obtain rfl : k = n := by omega
    show f_X3_hasOneAt_b2_body G (f_X3_hasOneAt_b2 G fuel) (z.2.2.2 (btn b)) x y (nI k) h = _
    simp only [f_X3_hasOneAt_b2_body, g_tn_0 R, rd_s, bd_s, c_oL R (lb_lt b), s_szv R T, if_pos (Int32.le_refl _), z1_0, kHas]
  | succ d ih =>
    intro k fuel hk hf
    obtain ⟨fuel, rfl⟩ : ∃ q, fuel = q + 1 := ⟨fuel - 1, by omega⟩
    have hkn : k < n := by omega
    have h16 := T.2.2.2
    have hv := T.v hkn
    have hms := T.m hkn
    have ih := ih (k + 1) fuel (by omega) (by omega)
    show f_X3_hasOneAt_b2_body G (f_X3_hasOneAt_b2 G fuel) (z.2.2.2 (btn b)) x y (nI k) h = _
    simp only [f_X3_hasOneAt_b2_body, g_tn_0 R, rd_s, bd_s, c_oL R (lb_lt b), s_szv R T, if_neg (nI_ge hkn (by omega)), s_getv R T hkn, c_ovn R hv, g_vn_0 R hv, g_ms_0 R hms, g_ms_1 R hms, f_X3_hasOneAt_b49, z1_1, ih, kHas, nI_1]
    by_cases c1 : z.1 4 k 0 = x
    · by_cases c2 : z.1 4 k 1 = y
      · simp only [if_pos c1, if_pos c2, if_pos (And.intro c1 c2)]
      · simp only [if_pos c1, if_neg c2, if_neg (fun q : z.1 4 k 0 = x ∧ z.1 4 k 1 = y => c2 q.2)]
    · simp only [if_neg c1, if_neg (fun q : z.1 4 k 0 = x ∧ z.1 4 k 1 = y => c1 q.1)]
theorem s_hasOneAt {G : GE} {z : Zs} {h : PH} (R : Rp G z h) {b : Bool} {n : Nat} (T : TW z b n) (x y : Int32) : f_X3_hasOneAt G (z.2.2.2 (btn b)) x y h = some (kHas z x y n 0, h) :=
  sl_hasOneAt R T x y n 0 LF (by omega) (by have := T.2.2.2; unfold LF; omega)
theorem s_directionOf {G : GE} {z : Zs} {h : PH} (R : Rp G z h) {b : Bool} {n j : Nat} (T : TW z b n) (hj : j < n) : f_X3_directionOf G (z.2.2.2 (btn b)) (nI j) h = some (z.1 (gv b) j 6, h) := by
  have h16 := T.2.2.2
  simp only [f_X3_directionOf, if_neg (nI_pos (show j < 2 ^ 31 by omega)), g_tn_0 R, rd_s, bd_s, c_oL R (lb_lt b), s_szv R T, if_neg (nI_ge hj (show n < 2 ^ 31 by omega)), s_getv R T hj, c_ovn R (T.v hj), g_vn_3 R (T.v hj), f_X3_directionOf_b33]
/-- rows of a vane, after -/
def rOil (r : Nat → Int32) : Nat → Int32 := u1 (u1 r 5 0) 9 0
def rRain (r : Nat → Int32) : Nat → Int32 := if (r 9 + 1) - (r 9 + 1) / (2 : Int32) * (2 : Int32) = (1 : Int32) then u1 (u1 r 9 (r 9 + 1)) 5 (mnI (9 : Int32) (r 5 + 1)) else u1 r 9 (r 9 + 1)
def rEff (eff side : Int32) (r : Nat → Int32) : Nat → Int32 :=
  if eff = 1 ∧ side = 1 then rOil r else if eff = 2 ∧ side = -1 then u1 r 8 (mxI (r 8) (4 : Int32)) else if eff = 3 then u1 r 4 (mxI (0 : Int32) (mnI (9 : Int32) (r 4 + side))) else r
def kMod (x : Int32) : Int32 := if 0 ≤ (x ^^^ (16 : Int32)) then x - x / (16 : Int32) * (16 : Int32) else if x - x / (16 : Int32) * (16 : Int32) = 0 then x - x / (16 : Int32) * (16 : Int32) else (x - x / (16 : Int32) * (16 : Int32)) + (16 : Int32)
def rBlow (wt wind pull : Int32) (r : Nat → Int32) : Nat → Int32 :=
  if r 8 ≤ 0 then (if r 5 < wind then u1 (u1 r 7 (kSpin (r 7) wt pull wind (r 5))) 6 (kMod (r 6 + kSpin (r 7) wt pull wind (r 5))) else u1 r 7 0) else u1 (u1 r 8 (r 8 - 1)) 7 0
def rCp (o r : Nat → Int32) : Nat → Int32 := u1 (u1 (u1 (u1 (u1 (u1 r 4 (o 4)) 5 (o 5)) 6 (o 6)) 7 (o 7)) 8 (o 8)) 9 (o 9)
def rNote (c : Int32) (r : Nat → Int32) : Nat → Int32 := if c = 0 then u1 r 4 (r 4 + 1) else u1 (u1 r 4 (r 4 + 1)) 5 (r 5 + 1)
theorem uI_uR (z : Zs) (g i k : Nat) (r : Nat → Int32) (x : Int32) : uI (uR z g i r) g i k x = uR z g i (u1 r k x) := by
  unfold uI
  rw [uR_s, uR_uR]
theorem uI_eq (z : Zs) (g i k : Nat) (x : Int32) : uI z g i k x = uR z g i (u1 (z.1 g i) k x) := rfl
theorem uR_id (z : Zs) (g i : Nat) : uR z g i (z.1 g i) = z := by
  unfold uR
  rw [show u1 (z.1 g) i (z.1 g i) = z.1 g from funext fun a => by unfold u1; by_cases e : a = i <;> simp [e], uG_id]
theorem s_takeOil {G : GE} {z : Zs} {h : PH} (R : Rp G z h) {b : Bool} {j : Nat} (hj : j < z.2.1 (nv b)) : ∃ h', f_X4_takeOil G (z.2.2.2 (bvn b j)) h = some ((), h') ∧ Rp G (uR z (gv b) j (rOil (z.1 (gv b) j))) h' := by
  obtain ⟨h1, e1, R1⟩ := w_vn_2 R hj 0
  obtain ⟨h2, e2, R2⟩ := w_vn_6 R1 (b := b) (i := j) hj 0
  refine ⟨h2, ?_, ?_⟩
  · rw [f_X4_takeOil, e1, rd_s]
    erw [e2]
    rfl
  · rw [uI_eq z, uI_uR] at R2
    exact R2
theorem s_takeRain {G : GE} {z : Zs} {h : PH} (R : Rp G z h) {b : Bool} {j : Nat} (hj : j < z.2.1 (nv b)) : ∃ h', f_X4_takeRain G (z.2.2.2 (bvn b j)) h = some ((), h') ∧ Rp G (uR z (gv b) j (rRain (z.1 (gv b) j))) h' := by
  obtain ⟨h1, e1, R1⟩ := w_vn_6 R hj (z.1 (gv b) j 9 + 1)
  rw [uI_eq z] at R1
  have g6 : gI 5 h1 (z.2.2.2 (bvn b j)) 6 = some (z.1 (gv b) j 9 + 1) := by
    have := g_vn_6 R1 (b := b) (i := j) hj
    rw [uR_s] at this
    exact this
  have g5 : gI 5 h1 (z.2.2.2 (bvn b j)) 2 = some (z.1 (gv b) j 5) := by
    have := g_vn_2 R1 (b := b) (i := j) hj
    rw [uR_s] at this
    exact this
  by_cases c : (z.1 (gv b) j 9 + 1) - (z.1 (gv b) j 9 + 1) / (2 : Int32) * (2 : Int32) = (1 : Int32)
  · obtain ⟨h2, e2, R2⟩ := w_vn_2 R1 (b := b) (i := j) hj (mnI (9 : Int32) (z.1 (gv b) j 5 + 1))
    have e2 : sF 5 h1 (z.2.2.2 (bvn b j)) 2 (.int (mnI (9 : Int32) (z.1 (gv b) j 5 + 1))) = some h2 := e2
    rw [uI_uR] at R2
    refine ⟨h2, ?_, ?_⟩
    · simp only [f_X4_takeRain, g_vn_6 R hj, rd_s, e1, g6, if_pos c, g5, e2, f_X4_takeRain_b35]
    · rw [rRain, if_pos c]
      exact R2
  · refine ⟨h1, ?_, ?_⟩
    · simp only [f_X4_takeRain, g_vn_6 R hj, rd_s, e1, g6, if_neg c, f_X4_takeRain_b35]
    · rw [rRain, if_neg c]
      exact R1
theorem s_takeEffect {G : GE} {z : Zs} {h : PH} (R : Rp G z h) {b : Bool} {j : Nat} (hj : j < z.2.1 (nv b)) (eff side : Int32) : ∃ h', f_X4_takeEffect G (z.2.2.2 (bvn b j)) eff side h = some ((), h') ∧ Rp G (uR z (gv b) j (rEff eff side (z.1 (gv b) j))) h' := by
  by_cases c1 : eff = 1 ∧ side = 1
  · obtain ⟨h1, e1, R1⟩ := s_takeOil R hj
    refine ⟨h1, ?_, ?_⟩
    · simp only [f_X4_takeEffect, if_pos c1.1, if_pos c1.2, c_ovn R hj, rd_s, e1, bd_s, f_X4_takeEffect_b66]
    · rw [rEff, if_pos c1]
      exact R1
  have q1 : f_X4_takeEffect G (z.2.2.2 (bvn b j)) eff side h = f_X4_takeEffect_b17 G (z.2.2.2 (bvn b j)) eff side h := by
    unfold f_X4_takeEffect
    by_cases c : eff = 1
    · rw [if_pos c, if_neg (fun q => c1 ⟨c, q⟩)]
    · rw [if_neg c]
  by_cases c2 : eff = 2 ∧ side = -1
  · obtain ⟨h1, e1, R1⟩ := w_vn_5 R hj (mxI (z.1 (gv b) j 8) (4 : Int32))
    refine ⟨h1, ?_, ?_⟩
    · simp only [q1, f_X4_takeEffect_b17, if_pos c2.1, if_pos c2.2, g_vn_5 R hj, rd_s, e1, f_X4_takeEffect_b66]
    · rw [rEff, if_neg c1, if_pos c2]
      exact R1
  have q2 : f_X4_takeEffect_b17 G (z.2.2.2 (bvn b j)) eff side h = f_X4_takeEffect_b42 G (z.2.2.2 (bvn b j)) eff side h := by
    unfold f_X4_takeEffect_b17
    by_cases c : eff = 2
    · rw [if_pos c, if_neg (fun q => c2 ⟨c, q⟩)]
    · rw [if_neg c]
  by_cases c3 : eff = 3
  · obtain ⟨h1, e1, R1⟩ := w_vn_1 R hj (mxI (0 : Int32) (mnI (9 : Int32) (z.1 (gv b) j 4 + side)))
    refine ⟨h1, ?_, ?_⟩
    · simp only [q1, q2, f_X4_takeEffect_b42, if_pos c3, g_vn_1 R hj, rd_s, e1, f_X4_takeEffect_b66]
    · rw [rEff, if_neg c1, if_neg c2, if_pos c3]
      exact R1
  · refine ⟨h, ?_, ?_⟩
    · simp only [q1, q2, f_X4_takeEffect_b42, if_neg c3, f_X4_takeEffect_b66]
    · rw [rEff, if_neg c1, if_neg c2, if_neg c3, uR_id]
      exact R
theorem s_floorMod {G : GE} {h : PH} (x : Int32) : f_J9_floorMod_7cf53 G x (16 : Int32) h = some (kMod x, h) := by
  simp only [f_J9_floorMod_7cf53, nz, if_neg (show ¬ (16 : Int32) = 0 by decide), f_J9_floorMod_7cf53_b18]
  unfold kMod
  repeat' split
  all_goals rfl
theorem s_blow {G : GE} {z : Zs} {h : PH} (R : Rp G z h) {b : Bool} {j w : Nat} (hv : j < z.2.1 (nv b)) (hj : j < z.2.1 3) (hw : w < z.2.1 0) (hd : isD (z.1 1 w 0)) (hq : ¬ ((z.1 4 j 3 + (4 : Int32)) + z.1 (gv b) j 5) ≤ 0) : ∃ h', f_X4_blow G (z.2.2.2 (bvn b j)) (z.2.2.2 (bwn w)) h = some ((), h') ∧ Rp G (uR z (gv b) j (rBlow (z.1 4 j 3) (kWind z j w) (kSteps (z.1 (gv b) j 6) (z.1 1 w 0)) (z.1 (gv b) j))) h' := by
  by_cases c : z.1 (gv b) j 8 ≤ 0
  · by_cases c2 : z.1 (gv b) j 5 < kWind z j w
    · obtain ⟨h1, e1, R1⟩ := w_vn_4 R hv (kSpin (z.1 (gv b) j 7) (z.1 4 j 3) (kSteps (z.1 (gv b) j 6) (z.1 1 w 0)) (kWind z j w) (z.1 (gv b) j 5))
      rw [uI_eq z] at R1
      have g3 : gI 5 h1 (z.2.2.2 (bvn b j)) 3 = some (z.1 (gv b) j 6) := by
        have := g_vn_3 R1 (b := b) (i := j) hv
        rw [uR_s] at this
        exact this
      have g4 : gI 5 h1 (z.2.2.2 (bvn b j)) 4 = some (kSpin (z.1 (gv b) j 7) (z.1 4 j 3) (kSteps (z.1 (gv b) j 6) (z.1 1 w 0)) (kWind z j w) (z.1 (gv b) j 5)) := by
        have := g_vn_4 R1 (b := b) (i := j) hv
        rw [uR_s] at this
        exact this
      obtain ⟨h2, e2, R2⟩ := w_vn_3 R1 (b := b) (i := j) hv (kMod (z.1 (gv b) j 6 + kSpin (z.1 (gv b) j 7) (z.1 4 j 3) (kSteps (z.1 (gv b) j 6) (z.1 1 w 0)) (kWind z j w) (z.1 (gv b) j 5)))
      rw [uI_uR] at R2
      have e2 : sF 5 h1 (z.2.2.2 (bvn b j)) 3 (.int (kMod (z.1 (gv b) j 6 + kSpin (z.1 (gv b) j 7) (z.1 4 j 3) (kSteps (z.1 (gv b) j 6) (z.1 1 w 0)) (kWind z j w) (z.1 (gv b) j 5)))) = some h2 := e2
      refine ⟨h2, ?_, ?_⟩
      · simp only [f_X4_blow, g_vn_5 R hv, rd_s, if_pos c, c_ovn R hv, s_isStuck R hv hj hw hd, bd_s, if_pos c2, if_true, s_nextSpin R hv hj hw hd hq, e1, g3, g4, s_floorMod, e2, f_X4_blow_b68]
      · rw [rBlow, if_pos c, if_pos c2]
        exact R2
    · obtain ⟨h1, e1, R1⟩ := w_vn_4 R hv 0
      refine ⟨h1, ?_, ?_⟩
      · simp only [f_X4_blow, g_vn_5 R hv, rd_s, if_pos c, c_ovn R hv, s_isStuck R hv hj hw hd, bd_s, if_neg c2, if_neg (show ¬ (1 : Int32) = 0 by decide), e1, f_X4_blow_b68]
      · rw [rBlow, if_pos c, if_neg c2]
        exact R1
  · obtain ⟨h1, e1, R1⟩ := w_vn_5 R hv (z.1 (gv b) j 8 - 1)
    rw [uI_eq z] at R1
    obtain ⟨h2, e2, R2⟩ := w_vn_4 R1 (b := b) (i := j) hv 0
    rw [uI_uR] at R2
    have e2 : sF 5 h1 (z.2.2.2 (bvn b j)) 4 (.int 0) = some h2 := e2
    refine ⟨h2, ?_, ?_⟩
    · simp only [f_X4_blow, g_vn_5 R hv, rd_s, if_neg c, e1, e2, f_X4_blow_b68]
    · rw [rBlow, if_neg c]
      exact R2
theorem s_noteVoting {G : GE} {z : Zs} {h : PH} (R : Rp G z h) {m : Nat} (hm : m < z.2.1 1) (c : Int32) : ∃ h', f_X2_noteVoting G (z.2.2.2 (bmo m)) c h = some ((), h') ∧ Rp G (uR z 2 m (rNote c (z.1 2 m))) h' := by
  obtain ⟨h1, e1, R1⟩ := w_mo_5 R hm (z.1 2 m 4 + 1)
  rw [uI_eq z] at R1
  by_cases hc : c = 0
  · refine ⟨h1, ?_, ?_⟩
    · simp only [f_X2_noteVoting, g_mo_5 R hm, rd_s, e1, if_pos hc, f_X2_noteVoting_b24]
    · rw [rNote, if_pos hc]
      exact R1
  · have g6 : gI 3 h1 (z.2.2.2 (bmo m)) 6 = some (z.1 2 m 5) := by
      have := g_mo_6 R1 (i := m) hm
      rw [uR_s] at this
      exact this
    obtain ⟨h2, e2, R2⟩ := w_mo_6 R1 (i := m) hm (z.1 2 m 5 + 1)
    rw [uI_uR] at R2
    have e2 : sF 3 h1 (z.2.2.2 (bmo m)) 6 (.int (z.1 2 m 5 + 1)) = some h2 := e2
    refine ⟨h2, ?_, ?_⟩
    · simp only [f_X2_noteVoting, g_mo_5 R hm, rd_s, e1, if_neg hc, g6, e2, f_X2_noteVoting_b24]
    · rw [rNote, if_neg hc]
      exact R2
