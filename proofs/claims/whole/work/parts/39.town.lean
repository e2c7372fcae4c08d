/-! ===== the lists read; the town read ===== -/
theorem lb_lt (b : Bool) : lb b < 5 := by cases b <;> decide
theorem el_lb (b : Bool) (j : Nat) : el (lb b) j = bvn b j := by cases b <;> rfl
theorem e_A {G : GE} {z : Zs} {k : Nat} (hk : k < 5) (hc : ¬ z.2.1 (60 + k) = 0) : ct G z (bA k) = some (.inl (1, z.2.1 (60 + k), .inr (.inr (.inr (.inr (fun i => if i < z.2.1 (50 + k) then some (z.2.2.2 (el k i)) else none)))))) := by
  simp [ct, hk, hc]
theorem s_size {G : GE} {z : Zs} {h : PH} (R : Rp G z h) {k : Nat} (hk : k < 5) : f_Jx4a65c_size_8abf5 G (z.2.2.2 (bL k)) h = some (nI (z.2.1 (50 + k)), h) := by
  rw [f_Jx4a65c_size_8abf5, g_L_2 R hk, rd_s]
theorem s_get {G : GE} {z : Zs} {h : PH} (R : Rp G z h) {k j : Nat} (hk : k < 5) (hj : j < z.2.1 (50 + k)) : f_Jx4a65c_get_915e3 G (z.2.2.2 (bL k)) (nI j) h = some (z.2.2.2 (el k j), h) := by
  obtain ⟨h1, h2⟩ := R.2 k hk
  have hc : ¬ z.2.1 (60 + k) = 0 := by omega
  rw [f_Jx4a65c_get_915e3, g_L_2 R hk, rd_s, f_J15_checkIndex_7cf53, f_J3_checkIndex_8e157, if_neg (nI_pos (by omega)), if_pos (nI_lt hj (by omega)), bd_s, bd_s, c_oL R hk, rd_s, f_Jx4a65c_elementData_915e3, g_L_1 R hk, rd_s, if_neg hc, aR_of (R.at (e_A hk hc)) (Nat.lt_of_lt_of_le hj h1) (by omega) (if_pos hj), rd_s, bd_s]
/-- the town b has n vanes, each on its own mast -/
def TW (z : Zs) (b : Bool) (n : Nat) : Prop := z.2.1 (50 + lb b) = n ∧ z.2.1 (nv b) = n ∧ n ≤ z.2.1 3 ∧ n ≤ 16
theorem TW.v {z : Zs} {b : Bool} {n j : Nat} (T : TW z b n) (hj : j < n) : j < z.2.1 (nv b) := by rw [T.2.1]; exact hj
theorem TW.m {z : Zs} {b : Bool} {n j : Nat} (T : TW z b n) (hj : j < n) : j < z.2.1 3 := Nat.lt_of_lt_of_le hj T.2.2.1
theorem s_szv {G : GE} {z : Zs} {h : PH} (R : Rp G z h) {b : Bool} {n : Nat} (T : TW z b n) : f_Jx4a65c_size_8abf5 G (z.2.2.2 (bL (lb b))) h = some (nI n, h) := by
  rw [s_size R (lb_lt b), T.1]
theorem s_getv {G : GE} {z : Zs} {h : PH} (R : Rp G z h) {b : Bool} {n j : Nat} (T : TW z b n) (hj : j < n) : f_Jx4a65c_get_915e3 G (z.2.2.2 (bL (lb b))) (nI j) h = some (z.2.2.2 (bvn b j), h) := by
  rw [s_get R (lb_lt b) (by rw [T.1]; exact hj), el_lb]
/-- sums -/
def sumV (f : Nat → Int32) : Nat → Int32
  | 0 => 0
  | n + 1 => sumV f n + f n
def kSteps (a b : Int32) : Int32 := ((((b - a) + (7 : Int32)) + (16 : Int32)) - (((b - a) + (7 : Int32)) + (16 : Int32)) / (16 : Int32) * (16 : Int32)) - (7 : Int32)
def kSide (dir spread d : Int32) : Int32 := if spread < abI (kSteps d dir) then (if abI (kSteps d dir) < (8 : Int32) - spread / (2 : Int32) then 0 else -1) else 1
theorem s_sideOf {G : GE} {z : Zs} {h : PH} (R : Rp G z h) {b : Bool} {m j : Nat} (hm : m < z.2.1 1) (hj : j < z.2.1 (nv b)) : f_X2_sideOf G (z.2.2.2 (bmo m)) (z.2.2.2 (bvn b j)) h = some (kSide (z.1 2 m 0) (z.1 2 m 1) (z.1 (gv b) j 6), h) := by
  simp only [f_X2_sideOf, g_vn_3 R hj, g_mo_1 R hm, g_mo_2 R hm, rd_s, bd_s, f_X6_distance, f_X6_steps, f_X2_sideOf_b40]
  unfold kSide kSteps
  split
  · split <;> rfl
  · rfl
def kParty (d : Int32) : Int32 := ((d + (2 : Int32)) / (4 : Int32)) - ((d + (2 : Int32)) / (4 : Int32)) / (4 : Int32) * (4 : Int32)
theorem s_partyNumber {G : GE} {z : Zs} {h : PH} (R : Rp G z h) {b : Bool} {j : Nat} (hj : j < z.2.1 (nv b)) : f_X4_partyNumber G (z.2.2.2 (bvn b j)) h = some (kParty (z.1 (gv b) j 6), h) := by
  rw [f_X4_partyNumber, g_vn_3 R hj, rd_s]
  rfl
def kLee (z : Zs) (j : Nat) (d : Int32) : Int32 := z.1 5 j (kEighth d).toNatClampNeg
/-- a wind's direction -/
def isD (d : Int32) : Prop := ∃ n : Nat, n < 16 ∧ d = nI n
theorem kEighth_in {d : Int32} (hd : isD d) : ∃ e : Nat, e < 8 ∧ kEighth d = nI e := by
  obtain ⟨n, h, rfl⟩ := hd
  have key : ∀ n, n < 16 → ∃ e : Nat, e < 8 ∧ kEighth (nI n) = nI e := by decide +kernel
  exact key n h
theorem s_leeOf {G : GE} {z : Zs} {h : PH} (R : Rp G z h) {j w : Nat} (hj : j < z.2.1 3) (hw : w < z.2.1 0) (hd : isD (z.1 1 w 0)) : f_X1_leeOf G (z.2.2.2 (bms j)) (z.2.2.2 (bwn w)) h = some (kLee z j (z.1 1 w 0), h) := by
  obtain ⟨e, he, h1⟩ := kEighth_in hd
  simp only [f_X1_leeOf, g_wn_3 R hw, rd_s, h1, if_neg (nI_pos (show e < 2 ^ 31 by omega)), g_ms_4 R hj, aLen_of (R.at (e_ho hj)) (by decide) (R.de (e_ho hj)), if_neg (show ¬ nI 8 ≤ nI e from nI_ge he (by decide)), r_ho R hj he, f_X1_leeOf_b28, kLee, nI_clamp (show e < 2 ^ 31 by omega)]
def kWind (z : Zs) (j w : Nat) : Int32 := mxI (0 : Int32) (z.1 1 w 1 - (2 : Int32) * kLee z j (z.1 1 w 0))
theorem s_windHere {G : GE} {z : Zs} {h : PH} (R : Rp G z h) {b : Bool} {j w : Nat} (hv : j < z.2.1 (nv b)) (hj : j < z.2.1 3) (hw : w < z.2.1 0) (hd : isD (z.1 1 w 0)) : f_X4_windHere G (z.2.2.2 (bvn b j)) (z.2.2.2 (bwn w)) h = some (kWind z j w, h) := by
  rw [f_X4_windHere, g_wn_1 R hw, rd_s, g_vn_0 R hv, rd_s, c_oms R hj, rd_s, s_leeOf R hj hw hd, bd_s]
  rfl
theorem s_isStuck {G : GE} {z : Zs} {h : PH} (R : Rp G z h) {b : Bool} {j w : Nat} (hv : j < z.2.1 (nv b)) (hj : j < z.2.1 3) (hw : w < z.2.1 0) (hd : isD (z.1 1 w 0)) : f_X4_isStuck G (z.2.2.2 (bvn b j)) (z.2.2.2 (bwn w)) h = some (if z.1 (gv b) j 5 < kWind z j w then 0 else 1, h) := by
  rw [f_X4_isStuck, c_ovn R hv, rd_s, s_windHere R hv hj hw hd, bd_s, g_vn_2 R hv, rd_s]
  split <;> rfl
/-- what the wind w turns a vane by -/
def kSpin (spin wt pull wind rust : Int32) : Int32 :=
  let t0 := ((spin * wt) + (pull * wind)) / ((wt + (4 : Int32)) + rust)
  if t0 = 0 then ((pull >>> ((31 : Int32) &&& 31)) ||| ((((-pull)).toUInt32 >>> (((31 : Int32)).toUInt32 &&& Int32.toUInt32 31)).toInt32)) else mxI (-8 : Int32) (mnI (8 : Int32) t0)
theorem s_nextSpin {G : GE} {z : Zs} {h : PH} (R : Rp G z h) {b : Bool} {j w : Nat} (hv : j < z.2.1 (nv b)) (hj : j < z.2.1 3) (hw : w < z.2.1 0) (hd : isD (z.1 1 w 0)) (hq : ¬ ((z.1 4 j 3 + (4 : Int32)) + z.1 (gv b) j 5) ≤ 0) : f_X4_nextSpin G (z.2.2.2 (bvn b j)) (z.2.2.2 (bwn w)) h = some (kSpin (z.1 (gv b) j 7) (z.1 4 j 3) (kSteps (z.1 (gv b) j 6) (z.1 1 w 0)) (kWind z j w) (z.1 (gv b) j 5), h) := by
  have h0 : ¬ ((z.1 4 j 3 + (4 : Int32)) + z.1 (gv b) j 5) = 0 := fun e => hq (by rw [e]; decide)
  simp only [f_X4_nextSpin, g_vn_3 R hv, g_wn_0 R hw, rd_s, bd_s, f_X6_steps, g_vn_4 R hv, g_vn_0 R hv, g_ms_3 R hj, c_ovn R hv, s_windHere R hv hj hw hd, g_vn_2 R hv, if_neg hq, nz, if_neg h0, f_X4_nextSpin_b62, f_J6_signum_0f7a4]
  unfold kSpin
  rw [← apply_ite (fun x => some (x, h))]
  rfl
def kVotes (z : Zs) (b : Bool) (m : Nat) (side : Int32) : Nat → Int32 := sumV (fun j => if kSide (z.1 2 m 0) (z.1 2 m 1) (z.1 (gv b) j 6) = side then z.1 (gv b) j 4 else 0)
theorem sl_votesOnSide {G : GE} {z : Zs} {h : PH} (R : Rp G z h) {b : Bool} {n : Nat} (T : TW z b n) {m : Nat} (hm : m < z.2.1 1) (side : Int32) : ∀ d k fuel, k + d = n → d < fuel → f_X3_votesOnSide_b5 G fuel (z.2.2.2 (btn b)) (z.2.2.2 (bmo m)) side (kVotes z b m side k) (nI k) h = some (kVotes z b m side n, h) := by
  intro d
  induction d with
  | zero =>
    intro k fuel hk hf
    obtain ⟨fuel, rfl⟩ : ∃ q, fuel = q + 1 := ⟨fuel - 1, by omega⟩
    obtain rfl : k = n := by omega
    show f_X3_votesOnSide_b5_body G (f_X3_votesOnSide_b5 G fuel) (z.2.2.2 (btn b)) (z.2.2.2 (bmo m)) side (kVotes z b m side k) (nI k) h = _
    simp only [f_X3_votesOnSide_b5_body, g_tn_0 R, rd_s, bd_s, c_oL R (lb_lt b), s_szv R T, if_pos (Int32.le_refl _)]
  | succ d ih =>
    intro k fuel hk hf
    obtain ⟨fuel, rfl⟩ : ∃ q, fuel = q + 1 := ⟨fuel - 1, by omega⟩
    have hkn : k < n := by omega
    have h16 := T.2.2.2
    have hv := T.v hkn
    have hms := T.m hkn
    have ih := ih (k + 1) fuel (by omega) (by omega)
    show f_X3_votesOnSide_b5_body G (f_X3_votesOnSide_b5 G fuel) (z.2.2.2 (btn b)) (z.2.2.2 (bmo m)) side (kVotes z b m side k) (nI k) h = _
    simp only [f_X3_votesOnSide_b5_body, g_tn_0 R, rd_s, bd_s, c_oL R (lb_lt b), s_szv R T, if_neg (nI_ge hkn (by omega)), s_getv R T hkn, c_ovn R hv, c_omo R hm, s_sideOf R hm hv, f_X3_votesOnSide_b55, nI_1]
    by_cases c : kSide (z.1 2 m 0) (z.1 2 m 1) (z.1 (gv b) k 6) = side
    · simp only [if_pos c, g_vn_1 R hv, rd_s]
      rw [← ih, kVotes, sumV, if_pos c]
    · simp only [if_neg c]
      rw [← ih, kVotes, sumV, if_neg c, Int32.add_zero]
theorem s_votesOnSide {G : GE} {z : Zs} {h : PH} (R : Rp G z h) {b : Bool} {n : Nat} (T : TW z b n) {m : Nat} (hm : m < z.2.1 1) (side : Int32) : f_X3_votesOnSide G (z.2.2.2 (btn b)) (z.2.2.2 (bmo m)) side h = some (kVotes z b m side n, h) :=
  sl_votesOnSide R T hm side n 0 LF (by omega) (by have := T.2.2.2; unfold LF; omega)
def kOf (z : Zs) (b : Bool) (set : Int32) : Nat → Int32 := sumV (fun j => if ((set >>> (kParty (z.1 (gv b) j 6) &&& 31)) &&& (1 : Int32)) = (1 : Int32) then z.1 (gv b) j 4 else 0)
theorem sl_votesOf {G : GE} {z : Zs} {h : PH} (R : Rp G z h) {b : Bool} {n : Nat} (T : TW z b n) (set : Int32) : ∀ d k fuel, k + d = n → d < fuel → f_X3_votesOf_b4 G fuel (z.2.2.2 (btn b)) set (kOf z b set k) (nI k) h = some (kOf z b set n, h) := by
  intro d
  induction d with
  | zero =>
    intro k fuel hk hf
    obtain ⟨fuel, rfl⟩ : ∃ q, fuel = q + 1 := ⟨fuel - 1, by omega⟩
    obtain rfl : k = n := by omega
    show f_X3_votesOf_b4_body G (f_X3_votesOf_b4 G fuel) (z.2.2.2 (btn b)) set (kOf z b set k) (nI k) h = _
    simp only [f_X3_votesOf_b4_body, g_tn_0 R, rd_s, bd_s, c_oL R (lb_lt b), s_szv R T, if_pos (Int32.le_refl _)]
  | succ d ih =>
    intro k fuel hk hf
    obtain ⟨fuel, rfl⟩ : ∃ q, fuel = q + 1 := ⟨fuel - 1, by omega⟩
    have hkn : k < n := by omega
    have h16 := T.2.2.2
    have hv := T.v hkn
    have hms := T.m hkn
    have ih := ih (k + 1) fuel (by omega) (by omega)
    show f_X3_votesOf_b4_body G (f_X3_votesOf_b4 G fuel) (z.2.2.2 (btn b)) set (kOf z b set k) (nI k) h = _
    simp only [f_X3_votesOf_b4_body, g_tn_0 R, rd_s, bd_s, c_oL R (lb_lt b), s_szv R T, if_neg (nI_ge hkn (by omega)), s_getv R T hkn, c_ovn R hv, s_partyNumber R hv, f_X3_votesOf_b54, nI_1]
    by_cases c : ((set >>> (kParty (z.1 (gv b) k 6) &&& 31)) &&& (1 : Int32)) = (1 : Int32)
    · simp only [if_pos c, g_vn_1 R hv, rd_s]
      rw [← ih, kOf, sumV, if_pos c]
    · simp only [if_neg c]
      rw [← ih, kOf, sumV, if_neg c, Int32.add_zero]
theorem s_votesOf {G : GE} {z : Zs} {h : PH} (R : Rp G z h) {b : Bool} {n : Nat} (T : TW z b n) (set : Int32) : f_X3_votesOf G (z.2.2.2 (btn b)) set h = some (kOf z b set n, h) :=
  sl_votesOf R T set n 0 LF (by omega) (by have := T.2.2.2; unfold LF; omega)
theorem s_allVotes {G : GE} {z : Zs} {h : PH} (R : Rp G z h) {b : Bool} {n : Nat} (T : TW z b n) : f_X3_allVotes G (z.2.2.2 (btn b)) h = some (kOf z b 15 n, h) := by
  rw [f_X3_allVotes, c_otn R, rd_s, s_votesOf R T, bd_s]
def kVof (z : Zs) (b : Bool) (set : Int32) : Nat → Int32 := sumV (fun j => (set >>> (kParty (z.1 (gv b) j 6) &&& 31)) &&& (1 : Int32))
theorem sl_vanesOf {G : GE} {z : Zs} {h : PH} (R : Rp G z h) {b : Bool} {n : Nat} (T : TW z b n) (set : Int32) : ∀ d k fuel, k + d = n → d < fuel → f_X3_vanesOf_b4 G fuel (z.2.2.2 (btn b)) set (kVof z b set k) (nI k) h = some (kVof z b set n, h) := by
  intro d
  induction d with
  | zero =>
    intro k fuel hk hf
    obtain ⟨fuel, rfl⟩ : ∃ q, fuel = q + 1 := ⟨fuel - 1, by omega⟩
    obtain rfl : k = n := by omega
    show f_X3_vanesOf_b4_body G (f_X3_vanesOf_b4 G fuel) (z.2.2.2 (btn b)) set (kVof z b set k) (nI k) h = _
    simp only [f_X3_vanesOf_b4_body, g_tn_0 R, rd_s, bd_s, c_oL R (lb_lt b), s_szv R T, if_pos (Int32.le_refl _)]
  | succ d ih =>
    intro k fuel hk hf
    obtain ⟨fuel, rfl⟩ : ∃ q, fuel = q + 1 := ⟨fuel - 1, by omega⟩
    have hkn : k < n := by omega
    have h16 := T.2.2.2
    have hv := T.v hkn
    have hms := T.m hkn
    have ih := ih (k + 1) fuel (by omega) (by omega)
    show f_X3_vanesOf_b4_body G (f_X3_vanesOf_b4 G fuel) (z.2.2.2 (btn b)) set (kVof z b set k) (nI k) h = _
    simp only [f_X3_vanesOf_b4_body, g_tn_0 R, rd_s, bd_s, c_oL R (lb_lt b), s_szv R T, if_neg (nI_ge hkn (by omega)), s_getv R T hkn, c_ovn R hv, s_partyNumber R hv, nI_1]
    exact ih
theorem s_vanesOf {G : GE} {z : Zs} {h : PH} (R : Rp G z h) {b : Bool} {n : Nat} (T : TW z b n) (set : Int32) : f_X3_vanesOf G (z.2.2.2 (btn b)) set h = some (kVof z b set n, h) :=
  sl_vanesOf R T set n 0 LF (by omega) (by have := T.2.2.2; unfold LF; omega)
def kBound (z : Zs) (b : Bool) : Nat → Int32 := sumV (fun j => if z.1 (gv b) j 8 ≤ 0 then 0 else 1)
theorem sl_boundVanes {G : GE} {z : Zs} {h : PH} (R : Rp G z h) {b : Bool} {n : Nat} (T : TW z b n)  : ∀ d k fuel, k + d = n → d < fuel → f_X3_boundVanes_b4 G fuel (z.2.2.2 (btn b)) (kBound z b k) (nI k) h = some (kBound z b n, h) := by
  intro d
  induction d with
  | zero =>
    intro k fuel hk hf
    obtain ⟨fuel, rfl⟩ : ∃ q, fuel = q + 1 := ⟨fuel - 1, by omega⟩
    obtain rfl : k = n := by omega
    show f_X3_boundVanes_b4_body G (f_X3_boundVanes_b4 G fuel) (z.2.2.2 (btn b)) (kBound z b k) (nI k) h = _
    simp only [f_X3_boundVanes_b4_body, g_tn_0 R, rd_s, bd_s, c_oL R (lb_lt b), s_szv R T, if_pos (Int32.le_refl _)]
  | succ d ih =>
    intro k fuel hk hf
    obtain ⟨fuel, rfl⟩ : ∃ q, fuel = q + 1 := ⟨fuel - 1, by omega⟩
    have hkn : k < n := by omega
    have h16 := T.2.2.2
    have hv := T.v hkn
    have hms := T.m hkn
    have ih := ih (k + 1) fuel (by omega) (by omega)
    show f_X3_boundVanes_b4_body G (f_X3_boundVanes_b4 G fuel) (z.2.2.2 (btn b)) (kBound z b k) (nI k) h = _
    simp only [f_X3_boundVanes_b4_body, g_tn_0 R, rd_s, bd_s, c_oL R (lb_lt b), s_szv R T, if_neg (nI_ge hkn (by omega)), s_getv R T hkn, c_ovn R hv, g_vn_5 R hv, f_X3_boundVanes_b35, nI_1]
    by_cases c : z.1 (gv b) k 8 ≤ 0
    · simp only [if_pos c]
      rw [← ih, kBound, sumV, if_pos c, Int32.add_zero]
    · simp only [if_neg c]
      rw [← ih, kBound, sumV, if_neg c]
theorem s_boundVanes {G : GE} {z : Zs} {h : PH} (R : Rp G z h) {b : Bool} {n : Nat} (T : TW z b n) : f_X3_boundVanes G (z.2.2.2 (btn b)) h = some (kBound z b n, h) :=
  sl_boundVanes R T n 0 LF (by omega) (by have := T.2.2.2; unfold LF; omega)
def kStuck (z : Zs) (b : Bool) (w : Nat) : Nat → Int32 := sumV (fun j => if z.1 (gv b) j 8 = 0 then (if z.1 (gv b) j 5 < kWind z j w then 0 else 1) else 0)
theorem sl_stuckVanes {G : GE} {z : Zs} {h : PH} (R : Rp G z h) {b : Bool} {n : Nat} (T : TW z b n) {w : Nat} (hw : w < z.2.1 0) (hd : isD (z.1 1 w 0)) : ∀ d k fuel, k + d = n → d < fuel → f_X3_stuckVanes_b4 G fuel (z.2.2.2 (btn b)) (z.2.2.2 (bwn w)) (kStuck z b w k) (nI k) h = some (kStuck z b w n, h) := by
  intro d
  induction d with
  | zero =>
    intro k fuel hk hf
    obtain ⟨fuel, rfl⟩ : ∃ q, fuel = q + 1 := ⟨fuel - 1, by omega⟩
    obtain rfl : k = n := by omega
    show f_X3_stuckVanes_b4_body G (f_X3_stuckVanes_b4 G fuel) (z.2.2.2 (btn b)) (z.2.2.2 (bwn w)) (kStuck z b w k) (nI k) h = _
    simp only [f_X3_stuckVanes_b4_body, g_tn_0 R, rd_s, bd_s, c_oL R (lb_lt b), s_szv R T, if_pos (Int32.le_refl _)]
  | succ d ih =>
    intro k fuel hk hf
    obtain ⟨fuel, rfl⟩ : ∃ q, fuel = q + 1 := ⟨fuel - 1, by omega⟩
    have hkn : k < n := by omega
    have h16 := T.2.2.2
    have hv := T.v hkn
    have hms := T.m hkn
    have ih := ih (k + 1) fuel (by omega) (by omega)
    show f_X3_stuckVanes_b4_body G (f_X3_stuckVanes_b4 G fuel) (z.2.2.2 (btn b)) (z.2.2.2 (bwn w)) (kStuck z b w k) (nI k) h = _
    simp only [f_X3_stuckVanes_b4_body, g_tn_0 R, rd_s, bd_s, c_oL R (lb_lt b), s_szv R T, if_neg (nI_ge hkn (by omega)), s_getv R T hkn, c_ovn R hv, g_vn_5 R hv, f_X3_stuckVanes_b53, s_isStuck R hv hms hw hd, nI_1]
    by_cases c : z.1 (gv b) k 8 = 0
    · simp only [if_pos c]
      by_cases e : z.1 (gv b) k 5 < kWind z k w
      · simp only [if_pos e, if_true]
        rw [← ih, kStuck, sumV, if_pos c, if_pos e, Int32.add_zero]
      · simp only [if_neg e, if_neg (show ¬ (1 : Int32) = 0 by decide)]
        rw [← ih, kStuck, sumV, if_pos c, if_neg e]
    · simp only [if_neg c]
      rw [← ih, kStuck, sumV, if_neg c, Int32.add_zero]
theorem s_stuckVanes {G : GE} {z : Zs} {h : PH} (R : Rp G z h) {b : Bool} {n : Nat} (T : TW z b n) {w : Nat} (hw : w < z.2.1 0) (hd : isD (z.1 1 w 0)) : f_X3_stuckVanes G (z.2.2.2 (btn b)) (z.2.2.2 (bwn w)) h = some (kStuck z b w n, h) :=
  sl_stuckVanes R T hw hd n 0 LF (by omega) (by have := T.2.2.2; unfold LF; omega)
