/-! ===== digest ===== -/
def dg (f : Nat → Int32) : Nat → Nat → Int64 → Int64
  | 0, _, x => x
  | d + 1, k, x => dg f d (k + 1) (x * 31 + (f k).toInt64)
def dgg (F : Nat → Nat → Int32) (m : Nat) : Nat → Nat → Int64 → Int64
  | 0, _, x => x
  | d + 1, i, x => dgg F m d (i + 1) (dg (F i) m 0 x)
def agF (f : Nat → Nat → Int32) : Nat → Nat → Int64 → Int64
  | 0, _, x => x
  | d + 1, i, x => agF f d (i + 1) ((x * 31 + (f i 0).toInt64) * 31 + (f i 1).toInt64)
theorem dg_c {f g : Nat → Int32} : ∀ d k x, (∀ i, i < k + d → f i = g i) → dg f d k x = dg g d k x := by
  intro d
  induction d with
  | zero => intro k x _; rfl
  | succ d ih =>
    intro k x h
    rw [dg, dg, h k (by omega), ih (k + 1) _ (fun i hi => h i (by omega))]
theorem dgg_c {F F' : Nat → Nat → Int32} {m : Nat} : ∀ d i x, (∀ j k, j < i + d → k < m → F j k = F' j k) → dgg F m d i x = dgg F' m d i x := by
  intro d
  induction d with
  | zero => intro i x _; rfl
  | succ d ih =>
    intro i x h
    rw [dgg, dgg, dg_c (f := F i) (g := F' i) m 0 x (fun k hk => h i k (by omega) (by omega)), ih (i + 1) _ (fun j k hj hk => h j k (by omega) hk)]
theorem agF_L (f : Nat → Nat → Int32) : ∀ d i x, agF f d i x = (rowL f d i).foldl (fun x e => (x * 31 + e.1.toInt64) * 31 + e.2.toInt64) x := by
  intro d
  induction d with
  | zero => intro i x; rfl
  | succ d ih =>
    intro i x
    rw [agF, rowL, ih, List.foldl_cons]
def kWI (z : Zs) (i k : Nat) : Int32 := kWT (z.1 1 i 0) (z.1 1 i 1) (z.1 1 i 2) (nI k)
theorem s_wtell2 {G : GE} {z : Zs} {h : PH} (R : Rp G z h) {w k : Nat} (hw : w < z.2.1 0) : f_X5_tell G (z.2.2.2 (bwn w)) (nI k) h = some (kWI z w k, h) := s_wtell R hw (nI k)
theorem sl_dW1 {G : GE} {z : Zs} {h : PH} (R : Rp G z h) {n : Nat} (C : CN z n) {i : Nat} (hi : i < z.2.1 0) (k5 : Nat → Int64 → Int32 → PH → Option (Int64 × PH)) : ∀ d k fuel x, k + d = 3 → d < fuel → f_X6_digestWinds_b20 G k5 fuel (z.2.2.2 bV) x (nI i) (nI k) h = k5 (z.2.2.2 bV) (dg (fun k => kWI z i k) d k x) (nI (i + 1)) h := by
  have g0 : f_Jx4a65c_get_915e3 G (z.2.2.2 (bL 0)) (nI i) h = some (z.2.2.2 (bwn i), h) := s_get R (k := 0) (j := i) (by decide) (by rw [show z.2.1 (50 + 0) = z.2.1 0 from C.1]; exact hi)
  intro d
  induction d with
  | zero =>
    intro k fuel x hk hf
    obtain ⟨fuel, rfl⟩ : ∃ q, fuel = q + 1 := ⟨fuel - 1, by omega⟩
    obtain rfl : k = 3 := by omega
    show f_X6_digestWinds_b20_body G k5 (f_X6_digestWinds_b20 G k5 fuel) (z.2.2.2 bV) x (nI i) (nI 3) h = _
    simp only [f_X6_digestWinds_b20_body, if_pos (show (3 : Int32) ≤ nI 3 from Int32.le_refl _), nI_1, dg]
  | succ d ih =>
    intro k fuel x hk hf
    obtain ⟨fuel, rfl⟩ : ∃ q, fuel = q + 1 := ⟨fuel - 1, by omega⟩
    show f_X6_digestWinds_b20_body G k5 (f_X6_digestWinds_b20 G k5 fuel) (z.2.2.2 bV) x (nI i) (nI k) h = _
    simp only [f_X6_digestWinds_b20_body, if_neg (show ¬ (3 : Int32) ≤ nI k from nI_ge (show k < 3 by omega) (by decide)), g_V_1 R, rd_s, c_oL R (show 0 < 5 by decide), g0, bd_s, c_own R hi, s_wtell2 R hi, nI_1, fun x => ih (k + 1) fuel x (by omega) (by omega), dg]
theorem sl_dW2 {G : GE} {z : Zs} {h : PH} (R : Rp G z h) {n : Nat} (C : CN z n) : ∀ d i fuel x, i + d = z.2.1 0 → d < fuel → f_X6_digestWinds_b5 G fuel (z.2.2.2 bV) x (nI i) h = some (dgg (fun j => fun k => kWI z j k) 3 d i x, h) := by
  have s0 : f_Jx4a65c_size_8abf5 G (z.2.2.2 (bL 0)) h = some (nI (z.2.1 0), h) := by rw [← C.1]; exact s_size R (k := 0) (by decide)
  have h24 := C.2.2.1
  intro d
  induction d with
  | zero =>
    intro i fuel x hk hf
    obtain ⟨fuel, rfl⟩ : ∃ q, fuel = q + 1 := ⟨fuel - 1, by omega⟩
    rw [Nat.add_zero] at hk
    show f_X6_digestWinds_b5_body G (f_X6_digestWinds_b5 G fuel) (z.2.2.2 bV) x (nI i) h = _
    simp only [f_X6_digestWinds_b5_body, g_V_1 R, rd_s, c_oL R (show 0 < 5 by decide), s0, bd_s, ← hk, if_pos (Int32.le_refl _), dgg]
  | succ d ih =>
    intro i fuel x hk hf
    obtain ⟨fuel, rfl⟩ : ∃ q, fuel = q + 1 := ⟨fuel - 1, by omega⟩
    have hi : i < z.2.1 0 := by omega
    have t := sl_dW1 R C hi (f_X6_digestWinds_b5 G fuel) 3 0 LF x (by omega) (by unfold LF; omega)
    have t : f_X6_digestWinds_b20 G (f_X6_digestWinds_b5 G fuel) LF (z.2.2.2 bV) x (nI i) (0 : Int32) h = _ := t
    show f_X6_digestWinds_b5_body G (f_X6_digestWinds_b5 G fuel) (z.2.2.2 bV) x (nI i) h = _
    simp only [f_X6_digestWinds_b5_body, g_V_1 R, rd_s, c_oL R (show 0 < 5 by decide), s0, bd_s, if_neg (nI_ge hi (by omega)), t, ih (i + 1) fuel _ (by omega) (by omega), dgg]
theorem sl_dV1 {G : GE} {z : Zs} {h : PH} (R : Rp G z h) {n H0 : Nat} (H : HB z false n) (hH : z.1 0 0 0 = nI H0) (h31 : H0 < 2 ^ 31) {i : Nat} (hi : i < n) (k5 : Nat → Int64 → Int32 → PH → Option (Int64 × PH)) : ∀ d k fuel x, k + d = 12 → d < fuel → f_X6_digestVanes_b23 G k5 fuel (z.2.2.2 bV) x (nI i) (nI k) h = k5 (z.2.2.2 bV) (dg (fun k => kVT z false i (H0 % z.2.1 0) (nI k)) d k x) (nI (i + 1)) h := by
  intro d
  induction d with
  | zero =>
    intro k fuel x hk hf
    obtain ⟨fuel, rfl⟩ : ∃ q, fuel = q + 1 := ⟨fuel - 1, by omega⟩
    obtain rfl : k = 12 := by omega
    show f_X6_digestVanes_b23_body G k5 (f_X6_digestVanes_b23 G k5 fuel) (z.2.2.2 bV) x (nI i) (nI 12) h = _
    simp only [f_X6_digestVanes_b23_body, if_pos (show (12 : Int32) ≤ nI 12 from Int32.le_refl _), nI_1, dg]
  | succ d ih =>
    intro k fuel x hk hf
    obtain ⟨fuel, rfl⟩ : ∃ q, fuel = q + 1 := ⟨fuel - 1, by omega⟩
    show f_X6_digestVanes_b23_body G k5 (f_X6_digestVanes_b23 G k5 fuel) (z.2.2.2 bV) x (nI i) (nI k) h = _
    simp only [f_X6_digestVanes_b23_body, if_neg (show ¬ (12 : Int32) ≤ nI k from nI_ge (show k < 12 by omega) (by decide)), g_V_4 R, g_tn_0 R, rd_s, c_oL R (lb_lt _), s_getv R (H.1.t false) hi, bd_s, c_ovn R ((H.1.t false).v hi), s_V6 R hH, c_oV R, s_windAt R H.1 h31, s_vtell R ((H.1.t false).v hi) ((H.1.t false).m hi) (H.wi H0) (H.2.1 _ (H.wi H0)), nI_1, fun x => ih (k + 1) fuel x (by omega) (by omega), dg]
theorem sl_dV2 {G : GE} {z : Zs} {h : PH} (R : Rp G z h) {n H0 : Nat} (H : HB z false n) (hH : z.1 0 0 0 = nI H0) (h31 : H0 < 2 ^ 31) : ∀ d i fuel x, i + d = n → d < fuel → f_X6_digestVanes_b5 G fuel (z.2.2.2 bV) x (nI i) h = some (dgg (fun j => fun k => kVT z false j (H0 % z.2.1 0) (nI k)) 12 d i x, h) := by
  have h16 := (H.1.t false).2.2.2
  intro d
  induction d with
  | zero =>
    intro i fuel x hk hf
    obtain ⟨fuel, rfl⟩ : ∃ q, fuel = q + 1 := ⟨fuel - 1, by omega⟩
    rw [Nat.add_zero] at hk
    show f_X6_digestVanes_b5_body G (f_X6_digestVanes_b5 G fuel) (z.2.2.2 bV) x (nI i) h = _
    simp only [f_X6_digestVanes_b5_body, g_V_4 R, g_tn_0 R, rd_s, c_oL R (lb_lt _), s_szv R (H.1.t false), bd_s, ← hk, if_pos (Int32.le_refl _), dgg]
  | succ d ih =>
    intro i fuel x hk hf
    obtain ⟨fuel, rfl⟩ : ∃ q, fuel = q + 1 := ⟨fuel - 1, by omega⟩
    have hi : i < n := by omega
    have t := sl_dV1 R H hH h31 hi (f_X6_digestVanes_b5 G fuel) 12 0 LF x (by omega) (by unfold LF; omega)
    have t : f_X6_digestVanes_b23 G (f_X6_digestVanes_b5 G fuel) LF (z.2.2.2 bV) x (nI i) (0 : Int32) h = _ := t
    show f_X6_digestVanes_b5_body G (f_X6_digestVanes_b5 G fuel) (z.2.2.2 bV) x (nI i) h = _
    simp only [f_X6_digestVanes_b5_body, g_V_4 R, g_tn_0 R, rd_s, c_oL R (lb_lt _), s_szv R (H.1.t false), bd_s, if_neg (nI_ge hi (by omega)), t, ih (i + 1) fuel _ (by omega) (by omega), dgg]
theorem sl_dM1 {G : GE} {z : Zs} {h : PH} (R : Rp G z h) {n : Nat} (C : CN z n) {i : Nat} (hi : i < z.2.1 1) (k5 : Nat → Int64 → Int32 → PH → Option (Int64 × PH)) : ∀ d k fuel x, k + d = 9 → d < fuel → f_X6_digestMotions_b20 G k5 fuel (z.2.2.2 bV) x (nI i) (nI k) h = k5 (z.2.2.2 bV) (dg (fun k => kMT z false i n (nI k)) d k x) (nI (i + 1)) h := by
  intro d
  induction d with
  | zero =>
    intro k fuel x hk hf
    obtain ⟨fuel, rfl⟩ : ∃ q, fuel = q + 1 := ⟨fuel - 1, by omega⟩
    obtain rfl : k = 9 := by omega
    show f_X6_digestMotions_b20_body G k5 (f_X6_digestMotions_b20 G k5 fuel) (z.2.2.2 bV) x (nI i) (nI 9) h = _
    simp only [f_X6_digestMotions_b20_body, if_pos (show (9 : Int32) ≤ nI 9 from Int32.le_refl _), nI_1, dg]
  | succ d ih =>
    intro k fuel x hk hf
    obtain ⟨fuel, rfl⟩ : ∃ q, fuel = q + 1 := ⟨fuel - 1, by omega⟩
    show f_X6_digestMotions_b20_body G k5 (f_X6_digestMotions_b20 G k5 fuel) (z.2.2.2 bV) x (nI i) (nI k) h = _
    simp only [f_X6_digestMotions_b20_body, if_neg (show ¬ (9 : Int32) ≤ nI k from nI_ge (show k < 9 by omega) (by decide)), g_V_2 R, g_V_4 R, rd_s, c_oL R (show 1 < 5 by decide), s_getm R C hi, bd_s, c_omo R hi, s_mtell R (C.t false) hi, nI_1, fun x => ih (k + 1) fuel x (by omega) (by omega), dg]
theorem sl_dM2 {G : GE} {z : Zs} {h : PH} (R : Rp G z h) {n : Nat} (C : CN z n) : ∀ d i fuel x, i + d = z.2.1 1 → d < fuel → f_X6_digestMotions_b5 G fuel (z.2.2.2 bV) x (nI i) h = some (dgg (fun j => fun k => kMT z false j n (nI k)) 9 d i x, h) := by
  have s0 : f_Jx4a65c_size_8abf5 G (z.2.2.2 (bL 1)) h = some (nI (z.2.1 1), h) := by rw [← show z.2.1 51 = z.2.1 1 from C.2.2.2.1]; exact s_size R (k := 1) (by decide)
  have h12 := C.2.2.2.2.1
  intro d
  induction d with
  | zero =>
    intro i fuel x hk hf
    obtain ⟨fuel, rfl⟩ : ∃ q, fuel = q + 1 := ⟨fuel - 1, by omega⟩
    rw [Nat.add_zero] at hk
    show f_X6_digestMotions_b5_body G (f_X6_digestMotions_b5 G fuel) (z.2.2.2 bV) x (nI i) h = _
    simp only [f_X6_digestMotions_b5_body, g_V_2 R, rd_s, c_oL R (show 1 < 5 by decide), s0, bd_s, ← hk, if_pos (Int32.le_refl _), dgg]
  | succ d ih =>
    intro i fuel x hk hf
    obtain ⟨fuel, rfl⟩ : ∃ q, fuel = q + 1 := ⟨fuel - 1, by omega⟩
    have hi : i < z.2.1 1 := by omega
    have t := sl_dM1 R C hi (f_X6_digestMotions_b5 G fuel) 9 0 LF x (by omega) (by unfold LF; omega)
    have t : f_X6_digestMotions_b20 G (f_X6_digestMotions_b5 G fuel) LF (z.2.2.2 bV) x (nI i) (0 : Int32) h = _ := t
    show f_X6_digestMotions_b5_body G (f_X6_digestMotions_b5 G fuel) (z.2.2.2 bV) x (nI i) h = _
    simp only [f_X6_digestMotions_b5_body, g_V_2 R, rd_s, c_oL R (show 1 < 5 by decide), s0, bd_s, if_neg (nI_ge hi (by omega)), t, ih (i + 1) fuel _ (by omega) (by omega), dgg]
theorem sl_dA {G : GE} {z : Zs} {h : PH} (R : Rp G z h) {n : Nat} (H : HB z false n) : ∀ d i fuel x, i + d = z.2.1 2 → d < fuel → f_X6_digest_b51 G fuel (z.2.2.2 bV) x (nI i) h = some (agF (z.1 3) d i x, h) := by
  have C := H.1
  have s0 : f_Jx4a65c_size_8abf5 G (z.2.2.2 (bL 2)) h = some (nI (z.2.1 2), h) := by rw [← show z.2.1 52 = z.2.1 2 from C.2.2.2.2.2.1]; exact s_size R (k := 2) (by decide)
  have h20 := C.2.2.2.2.2.2.1
  intro d
  induction d with
  | zero =>
    intro i fuel x hk hf
    obtain ⟨fuel, rfl⟩ : ∃ q, fuel = q + 1 := ⟨fuel - 1, by omega⟩
    rw [Nat.add_zero] at hk
    show f_X6_digest_b51_body G (f_X6_digest_b51 G fuel) (z.2.2.2 bV) x (nI i) h = _
    simp only [f_X6_digest_b51_body, g_V_3 R, rd_s, c_oL R (show 2 < 5 by decide), s0, bd_s, ← hk, if_pos (Int32.le_refl _), agF]
  | succ d ih =>
    intro i fuel x hk hf
    obtain ⟨fuel, rfl⟩ : ∃ q, fuel = q + 1 := ⟨fuel - 1, by omega⟩
    have hi : i < z.2.1 2 := by omega
    have g0 : f_Jx4a65c_get_915e3 G (z.2.2.2 (bL 2)) (nI i) h = some (z.2.2.2 (bae i), h) := s_get R (k := 2) (j := i) (by decide) (by rw [show z.2.1 (50 + 2) = z.2.1 2 from C.2.2.2.2.2.1]; exact hi)
    have hm := H.mo hi
    have e0 : nI (z.1 3 i 0).toNatClampNeg = z.1 3 i 0 := by
      obtain ⟨m, hm, em⟩ := H.2.2.2.1 i hi
      have := C.2.2.2.2.1
      rw [em, nI_clamp (by omega)]
    show f_X6_digest_b51_body G (f_X6_digest_b51 G fuel) (z.2.2.2 bV) x (nI i) h = _
    simp only [f_X6_digest_b51_body, g_V_3 R, rd_s, c_oL R (show 2 < 5 by decide), s0, bd_s, if_neg (nI_ge hi (by omega)), g0, c_oae R hi, g_ae_0 R hi, g_mo_0 R hm, g_ae_1 R hi, e0, nI_1, ih (i + 1) fuel _ (by omega) (by omega), agF]
theorem sl_dT {G : GE} {z : Zs} {h : PH} (R : Rp G z h) {n H0 : Nat} (H : HB z false n) (hH : z.1 0 0 0 = nI H0) (h31 : H0 < 2 ^ 31) : ∀ d k fuel x, k + d = 9 → d < fuel → f_X6_digest_b6 G fuel (z.2.2.2 bV) x (nI k) h = some (agF (z.1 3) (z.2.1 2) 0 (dgg (fun j => fun k => kMT z false j n (nI k)) 9 (z.2.1 1) 0 (dgg (fun j => fun k => kVT z false j (H0 % z.2.1 0) (nI k)) 12 n 0 (dgg (fun j => fun k => kWI z j k) 3 (z.2.1 0) 0 (dg (fun k => kTal z n (nI k)) d k x)))), h) := by
  have C := H.1
  have h24 := C.2.2.1
  have h12 := C.2.2.2.2.1
  have h20 := C.2.2.2.2.2.2.1
  have h16 := (C.t false).2.2.2
  intro d
  induction d with
  | zero =>
    intro k fuel x hk hf
    obtain ⟨fuel, rfl⟩ : ∃ q, fuel = q + 1 := ⟨fuel - 1, by omega⟩
    obtain rfl : k = 9 := by omega
    have tW : ∀ x, f_X6_digestWinds_b5 G LF (z.2.2.2 bV) x (0 : Int32) h = _ := fun x => sl_dW2 R C (z.2.1 0) 0 LF x (by omega) (by unfold LF; omega)
    have tV : ∀ x, f_X6_digestVanes_b5 G LF (z.2.2.2 bV) x (0 : Int32) h = _ := fun x => sl_dV2 R H hH h31 n 0 LF x (by omega) (by unfold LF; omega)
    have tM : ∀ x, f_X6_digestMotions_b5 G LF (z.2.2.2 bV) x (0 : Int32) h = _ := fun x => sl_dM2 R C (z.2.1 1) 0 LF x (by omega) (by unfold LF; omega)
    have tA : ∀ x, f_X6_digest_b51 G LF (z.2.2.2 bV) x (0 : Int32) h = _ := fun x => sl_dA R H (z.2.1 2) 0 LF x (by omega) (by unfold LF; omega)
    show f_X6_digest_b6_body G (f_X6_digest_b6 G fuel) (z.2.2.2 bV) x (nI 9) h = _
    simp only [f_X6_digest_b6_body, if_pos (show (9 : Int32) ≤ nI 9 from Int32.le_refl _), c_oV R, rd_s, f_X6_digestWinds, tW, bd_s, f_X6_digestVanes, tV, f_X6_digestMotions, tM, tA, dg]
  | succ d ih =>
    intro k fuel x hk hf
    obtain ⟨fuel, rfl⟩ : ∃ q, fuel = q + 1 := ⟨fuel - 1, by omega⟩
    show f_X6_digest_b6_body G (f_X6_digest_b6 G fuel) (z.2.2.2 bV) x (nI k) h = _
    simp only [f_X6_digest_b6_body, if_neg (show ¬ (9 : Int32) ≤ nI k from nI_ge (show k < 9 by omega) (by decide)), c_oV R, rd_s, s_tally R H hH h31, bd_s, nI_1, ih (k + 1) fuel _ (by omega) (by omega), dg]
theorem sl_mW1 {G : GE} {z : Zs} {h : PH} (R : Rp G z h) {W : Nat} (h24 : W ≤ 24) {i : Nat} (hi : i < W) (k5 : Nat → Int64 → Int32 → PH → Option (Int64 × PH)) : ∀ d k fuel x, k + d = 3 → d < fuel → f_X8_digest_b52 G k5 fuel (z.2.2.2 bX) x (nI i) (nI k) h = k5 (z.2.2.2 bX) (dg (fun k => mWT z i k) d k x) (nI (i + 1)) h := by
  intro d
  induction d with
  | zero =>
    intro k fuel x hk hf
    obtain ⟨fuel, rfl⟩ : ∃ q, fuel = q + 1 := ⟨fuel - 1, by omega⟩
    obtain rfl : k = 3 := by omega
    show f_X8_digest_b52_body G k5 (f_X8_digest_b52 G k5 fuel) (z.2.2.2 bX) x (nI i) (nI 3) h = _
    simp only [f_X8_digest_b52_body, if_pos (show (3 : Int32) ≤ nI 3 from Int32.le_refl _), nI_1, dg]
  | succ d ih =>
    intro k fuel x hk hf
    obtain ⟨fuel, rfl⟩ : ∃ q, fuel = q + 1 := ⟨fuel - 1, by omega⟩
    have hk' : k < 3 := by omega
    show f_X8_digest_b52_body G k5 (f_X8_digest_b52 G k5 fuel) (z.2.2.2 bX) x (nI i) (nI k) h = _
    simp only [f_X8_digest_b52_body, if_neg (show ¬ (3 : Int32) ≤ nI k from nI_ge hk' (by decide)), c_oX R, rd_s, s_windTold R (show i < 24 by omega) hk', bd_s, nI_1, fun x => ih (k + 1) fuel x (by omega) (by omega), dg]
theorem sl_mW2 {G : GE} {z : Zs} {h : PH} (R : Rp G z h) {W : Nat} (h24 : W ≤ 24) (hc : z.1 10 0 1 = nI (W)) : ∀ d i fuel x, i + d = W → d < fuel → f_X8_digest_b38 G fuel (z.2.2.2 bX) x (nI i) h = f_X8_digest_b87 G LF (z.2.2.2 bX) (dgg (fun j => fun k => mWT z j k) 3 d i x) (0 : Int32) h := by
  have s0 : gI 8 h (z.2.2.2 (bst false)) 1 = some (nI (W)) := by rw [← hc]; exact g_st_1 R
  intro d
  induction d with
  | zero =>
    intro i fuel x hk hf
    obtain ⟨fuel, rfl⟩ : ∃ q, fuel = q + 1 := ⟨fuel - 1, by omega⟩
    rw [Nat.add_zero] at hk
    show f_X8_digest_b38_body G (f_X8_digest_b38 G fuel) (z.2.2.2 bX) x (nI i) h = _
    simp only [f_X8_digest_b38_body, g_X_1 R, rd_s, s0, ← hk, if_pos (Int32.le_refl _), dgg]
  | succ d ih =>
    intro i fuel x hk hf
    obtain ⟨fuel, rfl⟩ : ∃ q, fuel = q + 1 := ⟨fuel - 1, by omega⟩
    have hi : i < W := by omega
    have t := sl_mW1 R h24 hi (f_X8_digest_b38 G fuel) 3 0 LF x (by omega) (by unfold LF; omega)
    have t : f_X8_digest_b52 G (f_X8_digest_b38 G fuel) LF (z.2.2.2 bX) x (nI i) (0 : Int32) h = _ := t
    show f_X8_digest_b38_body G (f_X8_digest_b38 G fuel) (z.2.2.2 bX) x (nI i) h = _
    simp only [f_X8_digest_b38_body, g_X_1 R, rd_s, s0, if_neg (nI_ge hi (by omega)), t, ih (i + 1) fuel _ (by omega) (by omega), dgg]
theorem sl_mV1 {G : GE} {z : Zs} {h : PH} (R : Rp G z h) {n W t : Nat} (M : MN z false n W t) {i : Nat} (hi : i < n) (k5 : Nat → Int64 → Int32 → PH → Option (Int64 × PH)) : ∀ d k fuel x, k + d = 12 → d < fuel → f_X8_digest_b101 G k5 fuel (z.2.2.2 bX) x (nI i) (nI k) h = k5 (z.2.2.2 bX) (dg (fun k => mVT z i n (t % W) k) d k x) (nI (i + 1)) h := by
  intro d
  induction d with
  | zero =>
    intro k fuel x hk hf
    obtain ⟨fuel, rfl⟩ : ∃ q, fuel = q + 1 := ⟨fuel - 1, by omega⟩
    obtain rfl : k = 12 := by omega
    show f_X8_digest_b101_body G k5 (f_X8_digest_b101 G k5 fuel) (z.2.2.2 bX) x (nI i) (nI 12) h = _
    simp only [f_X8_digest_b101_body, if_pos (show (12 : Int32) ≤ nI 12 from Int32.le_refl _), nI_1, dg]
  | succ d ih =>
    intro k fuel x hk hf
    obtain ⟨fuel, rfl⟩ : ∃ q, fuel = q + 1 := ⟨fuel - 1, by omega⟩
    have hk' : k < 12 := by omega
    show f_X8_digest_b101_body G k5 (f_X8_digest_b101 G k5 fuel) (z.2.2.2 bX) x (nI i) (nI k) h = _
    simp only [f_X8_digest_b101_body, if_neg (show ¬ (12 : Int32) ≤ nI k from nI_ge hk' (by decide)), c_oX R, rd_s, s_vaneTold R M (show i < 16 by have := M.2.1; omega) hk', bd_s, nI_1, fun x => ih (k + 1) fuel x (by omega) (by omega), dg]
theorem sl_mV2 {G : GE} {z : Zs} {h : PH} (R : Rp G z h) {n W t : Nat} (M : MN z false n W t) (hc : z.1 10 0 5 = nI (n)) : ∀ d i fuel x, i + d = n → d < fuel → f_X8_digest_b87 G fuel (z.2.2.2 bX) x (nI i) h = f_X8_digest_b137 G LF (z.2.2.2 bX) (dgg (fun j => fun k => mVT z j n (t % W) k) 12 d i x) (0 : Int32) h := by
  have s0 : gI 8 h (z.2.2.2 (bst false)) 5 = some (nI (n)) := by rw [← hc]; exact g_st_5 R
  have h16 := M.2.1
  intro d
  induction d with
  | zero =>
    intro i fuel x hk hf
    obtain ⟨fuel, rfl⟩ : ∃ q, fuel = q + 1 := ⟨fuel - 1, by omega⟩
    rw [Nat.add_zero] at hk
    show f_X8_digest_b87_body G (f_X8_digest_b87 G fuel) (z.2.2.2 bX) x (nI i) h = _
    simp only [f_X8_digest_b87_body, g_X_1 R, rd_s, s0, ← hk, if_pos (Int32.le_refl _), dgg]
  | succ d ih =>
    intro i fuel x hk hf
    obtain ⟨fuel, rfl⟩ : ∃ q, fuel = q + 1 := ⟨fuel - 1, by omega⟩
    have hi : i < n := by omega
    have t := sl_mV1 R M hi (f_X8_digest_b87 G fuel) 12 0 LF x (by omega) (by unfold LF; omega)
    have t : f_X8_digest_b101 G (f_X8_digest_b87 G fuel) LF (z.2.2.2 bX) x (nI i) (0 : Int32) h = _ := t
    show f_X8_digest_b87_body G (f_X8_digest_b87 G fuel) (z.2.2.2 bX) x (nI i) h = _
    simp only [f_X8_digest_b87_body, g_X_1 R, rd_s, s0, if_neg (nI_ge hi (by omega)), t, ih (i + 1) fuel _ (by omega) (by omega), dgg]
theorem sl_mM1 {G : GE} {z : Zs} {h : PH} (R : Rp G z h) {n W t mc : Nat} (M : MN z false n W t) (h12 : mc ≤ 12) {i : Nat} (hi : i < mc) (k5 : Nat → Int64 → Int32 → PH → Option (Int64 × PH)) : ∀ d k fuel x, k + d = 9 → d < fuel → f_X8_digest_b151 G k5 fuel (z.2.2.2 bX) x (nI i) (nI k) h = k5 (z.2.2.2 bX) (dg (fun k => mMT z i n k) d k x) (nI (i + 1)) h := by
  intro d
  induction d with
  | zero =>
    intro k fuel x hk hf
    obtain ⟨fuel, rfl⟩ : ∃ q, fuel = q + 1 := ⟨fuel - 1, by omega⟩
    obtain rfl : k = 9 := by omega
    show f_X8_digest_b151_body G k5 (f_X8_digest_b151 G k5 fuel) (z.2.2.2 bX) x (nI i) (nI 9) h = _
    simp only [f_X8_digest_b151_body, if_pos (show (9 : Int32) ≤ nI 9 from Int32.le_refl _), nI_1, dg]
  | succ d ih =>
    intro k fuel x hk hf
    obtain ⟨fuel, rfl⟩ : ∃ q, fuel = q + 1 := ⟨fuel - 1, by omega⟩
    have hk' : k < 9 := by omega
    show f_X8_digest_b151_body G k5 (f_X8_digest_b151 G k5 fuel) (z.2.2.2 bX) x (nI i) (nI k) h = _
    simp only [f_X8_digest_b151_body, if_neg (show ¬ (9 : Int32) ≤ nI k from nI_ge hk' (by decide)), c_oX R, rd_s, s_motionTold R M.1 M.2.1 (show i < 12 by omega) hk', bd_s, nI_1, fun x => ih (k + 1) fuel x (by omega) (by omega), dg]
theorem sl_mM2 {G : GE} {z : Zs} {h : PH} (R : Rp G z h) {n W t mc : Nat} (M : MN z false n W t) (h12 : mc ≤ 12) (hc : z.1 10 0 7 = nI (mc)) : ∀ d i fuel x, i + d = mc → d < fuel → f_X8_digest_b137 G fuel (z.2.2.2 bX) x (nI i) h = f_X8_digest_b187 G LF (z.2.2.2 bX) (dgg (fun j => fun k => mMT z j n k) 9 d i x) (0 : Int32) h := by
  have s0 : gI 8 h (z.2.2.2 (bst false)) 7 = some (nI (mc)) := by rw [← hc]; exact g_st_7 R
  intro d
  induction d with
  | zero =>
    intro i fuel x hk hf
    obtain ⟨fuel, rfl⟩ : ∃ q, fuel = q + 1 := ⟨fuel - 1, by omega⟩
    rw [Nat.add_zero] at hk
    show f_X8_digest_b137_body G (f_X8_digest_b137 G fuel) (z.2.2.2 bX) x (nI i) h = _
    simp only [f_X8_digest_b137_body, g_X_1 R, rd_s, s0, ← hk, if_pos (Int32.le_refl _), dgg]
  | succ d ih =>
    intro i fuel x hk hf
    obtain ⟨fuel, rfl⟩ : ∃ q, fuel = q + 1 := ⟨fuel - 1, by omega⟩
    have hi : i < mc := by omega
    have t := sl_mM1 R M h12 hi (f_X8_digest_b137 G fuel) 9 0 LF x (by omega) (by unfold LF; omega)
    have t : f_X8_digest_b151 G (f_X8_digest_b137 G fuel) LF (z.2.2.2 bX) x (nI i) (0 : Int32) h = _ := t
    show f_X8_digest_b137_body G (f_X8_digest_b137 G fuel) (z.2.2.2 bX) x (nI i) h = _
    simp only [f_X8_digest_b137_body, g_X_1 R, rd_s, s0, if_neg (nI_ge hi (by omega)), t, ih (i + 1) fuel _ (by omega) (by omega), dgg]
theorem sl_mA {G : GE} {z : Zs} {h : PH} (R : Rp G z h) {e : Nat} (h20 : e ≤ 20) (hc : z.1 10 0 9 = nI e) : ∀ d i fuel x, i + d = e → 2 * d < fuel → f_X8_digest_b187 G fuel (z.2.2.2 bX) x (nI (2 * i)) h = some (agF (z.1 14) d i x, h) := by
  have s0 : gI 8 h (z.2.2.2 (bst false)) 9 = some (nI e) := by rw [← hc]; exact g_st_9 R
  have hm : (2 : Int32) * nI e = nI (2 * e) := pk_mul 2 e
  intro d
  induction d with
  | zero =>
    intro i fuel x hk hf
    obtain ⟨fuel, rfl⟩ : ∃ q, fuel = q + 1 := ⟨fuel - 1, by omega⟩
    obtain rfl : i = e := by omega
    show f_X8_digest_b187_body G (f_X8_digest_b187 G fuel) (z.2.2.2 bX) x (nI (2 * i)) h = _
    simp only [f_X8_digest_b187_body, g_X_1 R, rd_s, s0, hm, if_pos (Int32.le_refl _), agF]
  | succ d ih =>
    intro i fuel x hk hf
    obtain ⟨fuel, rfl⟩ : ∃ q, fuel = q + 1 + 1 := ⟨fuel - 2, by omega⟩
    have r0 : aI h (z.2.2.2 (bsa false 5)) (nI (2 * i)) = some (z.1 14 i 0) := r_s5 R false (k := 0) (by decide) (by omega)
    have r1 : aI h (z.2.2.2 (bsa false 5)) (nI (2 * i + 1)) = some (z.1 14 i 1) := r_s5 R false (k := 1) (by decide) (by omega)
    have e2 : ∀ x, f_X8_digest_b187 G (fuel + 1) (z.2.2.2 bX) x (nI (2 * i + 1)) h = f_X8_digest_b187 G fuel (z.2.2.2 bX) (x * 31 + (z.1 14 i 1).toInt64) (nI (2 * (i + 1))) h := fun x => by
      show f_X8_digest_b187_body G (f_X8_digest_b187 G fuel) (z.2.2.2 bX) x (nI (2 * i + 1)) h = _
      simp only [f_X8_digest_b187_body, g_X_1 R, rd_s, s0, hm, if_neg (nI_ge (show 2 * i + 1 < 2 * e by omega) (by omega)), g_st_10 R, r1, nI_1, show 2 * i + 1 + 1 = 2 * (i + 1) by omega]
    show f_X8_digest_b187_body G (f_X8_digest_b187 G (fuel + 1)) (z.2.2.2 bX) x (nI (2 * i)) h = _
    simp only [f_X8_digest_b187_body, g_X_1 R, rd_s, s0, hm, if_neg (nI_ge (show 2 * i < 2 * e by omega) (by omega)), g_st_10 R, r0, nI_1, e2, ih (i + 1) fuel _ (by omega) (by omega), agF]
theorem sl_mT {G : GE} {z : Zs} {n W t mc e : Nat} (M : MN z false n W t) (h12 : mc ≤ 12) (h20 : e ≤ 20) (hM : z.1 10 0 7 = nI mc) (hE : z.1 10 0 9 = nI e) : ∀ d k fuel x h, k + d = 9 → d < fuel → Rp G z h → ∃ h', f_X8_digest_b11 G fuel (z.2.2.2 bX) x (nI k) h = some (agF (z.1 14) e 0 (dgg (fun j => fun k => mMT z j n k) 9 mc 0 (dgg (fun j => fun k => mVT z j n (t % W) k) 12 n 0 (dgg (fun j => fun k => mWT z j k) 3 W 0 (dg (fun k => mCt z n (t % W) k) d k x)))), h') ∧ Rp G z h' := by
  have h24 := M.2.2.2.2.1
  have h16 := M.2.1
  intro d
  induction d with
  | zero =>
    intro k fuel x h hk hf R
    obtain ⟨fuel, rfl⟩ : ∃ q, fuel = q + 1 := ⟨fuel - 1, by omega⟩
    obtain rfl : k = 9 := by omega
    have tW : ∀ x, f_X8_digest_b38 G LF (z.2.2.2 bX) x (0 : Int32) h = _ := fun x => sl_mW2 R h24 M.2.2.1 W 0 LF x (by omega) (by unfold LF; omega)
    have tV : ∀ x, f_X8_digest_b87 G LF (z.2.2.2 bX) x (0 : Int32) h = _ := fun x => sl_mV2 R M M.1 n 0 LF x (by omega) (by unfold LF; omega)
    have tM : ∀ x, f_X8_digest_b137 G LF (z.2.2.2 bX) x (0 : Int32) h = _ := fun x => sl_mM2 R M h12 hM mc 0 LF x (by omega) (by unfold LF; omega)
    have tA : ∀ x, f_X8_digest_b187 G LF (z.2.2.2 bX) x (0 : Int32) h = _ := fun x => sl_mA R h20 hE e 0 LF x (by omega) (by unfold LF; omega)
    refine ⟨h, ?_, R⟩
    show f_X8_digest_b11_body G (f_X8_digest_b11 G fuel) (z.2.2.2 bX) x (nI 9) h = _
    simp only [f_X8_digest_b11_body, if_pos (show (9 : Int32) ≤ nI 9 from Int32.le_refl _), tW, tV, tM, tA, dg]
  | succ d ih =>
    intro k fuel x h hk hf R
    obtain ⟨fuel, rfl⟩ : ∃ q, fuel = q + 1 := ⟨fuel - 1, by omega⟩
    obtain ⟨h1, e1, R1⟩ := s_counted R M (show k < 9 by omega)
    obtain ⟨h', e', R'⟩ := ih (k + 1) fuel (x * 31 + (mCt z n (t % W) k).toInt64) h1 (by omega) (by omega) R1
    refine ⟨h', ?_, R'⟩
    show f_X8_digest_b11_body G (f_X8_digest_b11 G fuel) (z.2.2.2 bX) x (nI k) h = _
    simp only [f_X8_digest_b11_body, if_neg (show ¬ (9 : Int32) ≤ nI k from nI_ge (show k < 9 by omega) (by decide)), c_oX R, rd_s, e1, bd_s, nI_1, e', dg]
theorem both_yy {α : Type} {G : GE} {h : PH} {z : Zs} {f : Option (α × PH)} {g : PH → Option (α × PH)} {eq : α → α → Prop} (R : Rp G z h) (Gd : Good z) {r : α} (hf : f = some (r, h))
    (hg : ∀ h3, sF 9 h (z.2.2.2 bX) 0 (.int 0) = some h3 → Rp G (uI z 0 1 0 0) h3 → ∃ b h4, g h = some (b, h4) ∧ eq r b ∧ Rp G (uI z 0 1 0 0) h4) : stY (z.2.2.2 bV) (z.2.2.2 bX) f g eq h (IV G (z.2.2.2 bV) (z.2.2.2 bX) (z.2.2.2 bO)) := by
  obtain ⟨h3, e3, R3⟩ := w_X_0 R 0
  obtain ⟨b, h4, e4, q4, R4⟩ := hg h3 e3 R3
  exact ⟨⟨(), c_oV R⟩, r, h, hf, ⟨(), c_oX R⟩, b, h4, e4, q4, _, R4, ⟨rfl, rfl, rfl⟩, Gd.thr 0⟩
theorem ls_digest {G : GE} {x y o : Nat} : LS_digest G x y o (IV G x y o) := by
  rintro h ⟨z, R, ⟨rfl, rfl, rfl⟩, Gd⟩
  have Gd' := Gd
  obtain ⟨n, W, H0, ne, S, g1, g2, g3, g4, g5, g6, g7, g8, g9⟩ := Gd
  have H := S.2.1
  have C := H.1
  have M := S.2.2.2.1
  have h12 := C.2.2.2.2.1
  have h31 : H0 < 2 ^ 31 := by omega
  have t := sl_dT R H g1 h31 9 0 LF 503 (by omega) (by unfold LF; omega)
  have hag := ag_all S g6
  refine both_yy R Gd' (by rw [f_X6_digest]; exact t) (fun h3 e3 R3 => ?_)
  obtain ⟨h4, e4, R4⟩ := sl_mT (G := G) (z := uI z 0 1 0 0) (n := n) (W := W) (t := H0) (mc := z.2.1 1) (e := ne) M h12 S.2.2.2.2.2.1 g4 S.2.2.2.2.1 9 0 10 503 h3 (by omega) (by omega) R3
  have e4 : f_X8_digest_b11 G 10 (z.2.2.2 bX) (503 : Int64) (0 : Int32) h3 = some (agF (z.1 14) ne 0 (dgg (fun j => fun k => mMT z j n k) 9 (z.2.1 1) 0 (dgg (fun j => fun k => mVT z j n (H0 % W) k) 12 n 0 (dgg (fun j => fun k => mWT z j k) 3 W 0 (dg (fun k => mCt z n (H0 % W) k) 9 0 503)))), h4) := e4
  refine ⟨_, h4, by rw [f_X8_digest, e3, rd_s]; exact e4, ?_, R4⟩
  rw [agF_L, agF_L, hag.2, S.2.2.1]
  rw [dg_c (f := fun k => kTal z n (nI k)) (g := fun k => mCt z n (H0 % W) k) 9 0 503 (fun k hk => eq_ct S g1 g2 g3 g4 g6 (by omega))]
  rw [dgg_c (F := fun j k => kWI z j k) (F' := fun j k => mWT z j k) W 0 _ (fun j k hj hk => eq_wt S (by rw [S.2.2.1]; omega) hk)]
  rw [dgg_c (F := fun j k => kVT z false j (H0 % W) (nI k)) (F' := fun j k => mVT z j n (H0 % W) k) n 0 _ (fun j k hj hk => eq_vt S (by omega) hk)]
  rw [dgg_c (F := fun j k => kMT z false j n (nI k)) (F' := fun j k => mMT z j n k) (z.2.1 1) 0 _ (fun j k hj hk => eq_mt S g5 (by omega) hk)]
