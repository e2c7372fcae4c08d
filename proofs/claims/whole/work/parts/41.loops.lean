/-! ===== loops that write; the wind; an hour ===== -/
def mapN (k : Nat) (F f : Nat → Nat → Int32) : Nat → Nat → Int32 := fun j => if j < k then F j else f j
theorem mapN_0 (F f : Nat → Nat → Int32) : mapN 0 F f = f := rfl
theorem mapN_s (k : Nat) (F f : Nat → Nat → Int32) : u1 (mapN k F f) k (F k) = mapN (k + 1) F f := by
  funext j
  unfold u1 mapN
  by_cases e : j = k
  · subst e
    simp
  · by_cases e2 : j < k
    · have e3 : j < k + 1 := by omega
      simp [e, e2, e3]
    · have e3 : ¬ j < k + 1 := by omega
      simp [e, e2, e3]
theorem mapN_k (k : Nat) (F f : Nat → Nat → Int32) : mapN k F f k = f k := by simp [mapN]
theorem uG_mapN (z : Zs) (g k : Nat) (F : Nat → Nat → Int32) : uR (uG z g (mapN k F (z.1 g))) g k (F k) = uG z g (mapN (k + 1) F (z.1 g)) := by
  unfold uR
  rw [uG_uG, uG_s, mapN_s]
theorem uG_row (z : Zs) (g k : Nat) (F : Nat → Nat → Int32) : (uG z g (mapN k F (z.1 g))).1 g k = z.1 g k := by rw [uG_s, mapN_k]
def bF (z : Zs) (b : Bool) (w j : Nat) : Nat → Int32 := rBlow (z.1 4 j 3) (kWind z j w) (kSteps (z.1 (gv b) j 6) (z.1 1 w 0)) (z.1 (gv b) j)
def nF (z : Zs) (b : Bool) (j : Nat) : Nat → Int32 := rRain (z.1 (gv b) j)
def fF (z : Zs) (b : Bool) (m j : Nat) : Nat → Int32 := rEff (z.1 2 m 3) (kSide (z.1 2 m 0) (z.1 2 m 1) (z.1 (gv b) j 6)) (z.1 (gv b) j)
def oF (z : Zs) (j : Nat) : Nat → Int32 := rCp (z.1 6 j) (z.1 7 j)
theorem s_copyFrom {G : GE} {z : Zs} {h : PH} (R : Rp G z h) {j : Nat} (q6 : j < z.2.1 4) (q7 : j < z.2.1 5) : ∃ h', f_X4_copyFrom G (z.2.2.2 (bvn true j)) (z.2.2.2 (bvn false j)) h = some ((), h') ∧ Rp G (uR z 7 j (oF z j)) h' := by
  have hv6 : j < z.2.1 (nv false) := q6
  have hv7 : j < z.2.1 (nv true) := q7
  obtain ⟨h1, e1, R1⟩ := w_vn_1 (b := true) (i := j) R hv7 (z.1 6 j 4)
  have R1 : Rp G (uR z 7 j (u1 (z.1 7 j) 4 (z.1 6 j 4))) h1 := R1
  have g2 : gI 5 h1 (z.2.2.2 (bvn false j)) 2 = some (z.1 6 j 5) := by
    have := g_vn_2 (b := false) (i := j) R1 hv6
    rw [uR_n z _ (show ¬ (gv false = 7 ∧ j = j) from fun q => absurd q.1 (by decide))] at this
    exact this
  obtain ⟨h2, e2, R2⟩ := w_vn_2 (b := true) (i := j) R1 hv7 (z.1 6 j 5)
  have R2 : Rp G (uR z 7 j (u1 (u1 (z.1 7 j) 4 (z.1 6 j 4)) 5 (z.1 6 j 5))) h2 := (uI_uR z 7 j 5 (u1 (z.1 7 j) 4 (z.1 6 j 4)) (z.1 6 j 5)) ▸ R2
  have e2 : sF 5 h1 (z.2.2.2 (bvn true j)) 2 (.int (z.1 6 j 5)) = some h2 := e2
  have g3 : gI 5 h2 (z.2.2.2 (bvn false j)) 3 = some (z.1 6 j 6) := by
    have := g_vn_3 (b := false) (i := j) R2 hv6
    rw [uR_n z _ (show ¬ (gv false = 7 ∧ j = j) from fun q => absurd q.1 (by decide))] at this
    exact this
  obtain ⟨h3, e3, R3⟩ := w_vn_3 (b := true) (i := j) R2 hv7 (z.1 6 j 6)
  have R3 : Rp G (uR z 7 j (u1 (u1 (u1 (z.1 7 j) 4 (z.1 6 j 4)) 5 (z.1 6 j 5)) 6 (z.1 6 j 6))) h3 := (uI_uR z 7 j 6 (u1 (u1 (z.1 7 j) 4 (z.1 6 j 4)) 5 (z.1 6 j 5)) (z.1 6 j 6)) ▸ R3
  have e3 : sF 5 h2 (z.2.2.2 (bvn true j)) 3 (.int (z.1 6 j 6)) = some h3 := e3
  have g4 : gI 5 h3 (z.2.2.2 (bvn false j)) 4 = some (z.1 6 j 7) := by
    have := g_vn_4 (b := false) (i := j) R3 hv6
    rw [uR_n z _ (show ¬ (gv false = 7 ∧ j = j) from fun q => absurd q.1 (by decide))] at this
    exact this
  obtain ⟨h4, e4, R4⟩ := w_vn_4 (b := true) (i := j) R3 hv7 (z.1 6 j 7)
  have R4 : Rp G (uR z 7 j (u1 (u1 (u1 (u1 (z.1 7 j) 4 (z.1 6 j 4)) 5 (z.1 6 j 5)) 6 (z.1 6 j 6)) 7 (z.1 6 j 7))) h4 := (uI_uR z 7 j 7 (u1 (u1 (u1 (z.1 7 j) 4 (z.1 6 j 4)) 5 (z.1 6 j 5)) 6 (z.1 6 j 6)) (z.1 6 j 7)) ▸ R4
  have e4 : sF 5 h3 (z.2.2.2 (bvn true j)) 4 (.int (z.1 6 j 7)) = some h4 := e4
  have g5 : gI 5 h4 (z.2.2.2 (bvn false j)) 5 = some (z.1 6 j 8) := by
    have := g_vn_5 (b := false) (i := j) R4 hv6
    rw [uR_n z _ (show ¬ (gv false = 7 ∧ j = j) from fun q => absurd q.1 (by decide))] at this
    exact this
  obtain ⟨h5, e5, R5⟩ := w_vn_5 (b := true) (i := j) R4 hv7 (z.1 6 j 8)
  have R5 : Rp G (uR z 7 j (u1 (u1 (u1 (u1 (u1 (z.1 7 j) 4 (z.1 6 j 4)) 5 (z.1 6 j 5)) 6 (z.1 6 j 6)) 7 (z.1 6 j 7)) 8 (z.1 6 j 8))) h5 := (uI_uR z 7 j 8 (u1 (u1 (u1 (u1 (z.1 7 j) 4 (z.1 6 j 4)) 5 (z.1 6 j 5)) 6 (z.1 6 j 6)) 7 (z.1 6 j 7)) (z.1 6 j 8)) ▸ R5
  have e5 : sF 5 h4 (z.2.2.2 (bvn true j)) 5 (.int (z.1 6 j 8)) = some h5 := e5
  have g6 : gI 5 h5 (z.2.2.2 (bvn false j)) 6 = some (z.1 6 j 9) := by
    have := g_vn_6 (b := false) (i := j) R5 hv6
    rw [uR_n z _ (show ¬ (gv false = 7 ∧ j = j) from fun q => absurd q.1 (by decide))] at this
    exact this
  obtain ⟨h6, e6, R6⟩ := w_vn_6 (b := true) (i := j) R5 hv7 (z.1 6 j 9)
  have R6 : Rp G (uR z 7 j (u1 (u1 (u1 (u1 (u1 (u1 (z.1 7 j) 4 (z.1 6 j 4)) 5 (z.1 6 j 5)) 6 (z.1 6 j 6)) 7 (z.1 6 j 7)) 8 (z.1 6 j 8)) 9 (z.1 6 j 9))) h6 := (uI_uR z 7 j 9 (u1 (u1 (u1 (u1 (u1 (z.1 7 j) 4 (z.1 6 j 4)) 5 (z.1 6 j 5)) 6 (z.1 6 j 6)) 7 (z.1 6 j 7)) 8 (z.1 6 j 8)) (z.1 6 j 9)) ▸ R6
  have e6 : sF 5 h5 (z.2.2.2 (bvn true j)) 6 (.int (z.1 6 j 9)) = some h6 := e6
  refine ⟨h6, ?_, R6⟩
  simp only [f_X4_copyFrom, show gI 5 h (z.2.2.2 (bvn false j)) 1 = some (z.1 6 j 4) from g_vn_1 (b := false) R hv6, rd_s, e1, g2, e2, g3, e3, g4, e4, g5, e5, g6, e6]
theorem sl_blowOnAll {G : GE} {z : Zs} {b : Bool} {n : Nat} (T : TW z b n) {w : Nat} (hw : w < z.2.1 0) (hd : isD (z.1 1 w 0)) (hq : ∀ j, j < n → ¬ ((z.1 4 j 3 + (4 : Int32)) + z.1 (gv b) j 5) ≤ 0) : ∀ d k fuel h, k + d = n → d < fuel → Rp G (uG z (gv b) (mapN k (bF z b w) (z.1 (gv b)))) h → ∃ h', f_X3_blowOnAll_b2 G fuel (z.2.2.2 (btn b)) (z.2.2.2 (bwn w)) (nI k) h = some ((), h') ∧ Rp G (uG z (gv b) (mapN n (bF z b w) (z.1 (gv b)))) h' := by
  intro d
  induction d with
  | zero =>
    intro k fuel h hk hf R
    obtain ⟨fuel, rfl⟩ : ∃ q, fuel = q + 1 := ⟨fuel - 1, by omega⟩
    obtain rfl : k = n := by omega
    refine ⟨h, ?_, R⟩
    generalize hz : uG z (gv b) (mapN k (bF z b w) (z.1 (gv b))) = z' at R
    have h2 : z'.2 = z.2 := by rw [← hz]; rfl
    have T' : TW z' b k := by rw [← hz]; exact T
    rw [← h2]
    show f_X3_blowOnAll_b2_body G (f_X3_blowOnAll_b2 G fuel) (z'.2.2.2 (btn b)) (z'.2.2.2 (bwn w)) (nI k) h = _
    simp only [f_X3_blowOnAll_b2_body, g_tn_0 R, rd_s, bd_s, c_oL R (lb_lt b), s_szv R T', if_pos (Int32.le_refl _)]
  | succ d ih =>
    intro k fuel h hk hf R
    obtain ⟨fuel, rfl⟩ : ∃ q, fuel = q + 1 := ⟨fuel - 1, by omega⟩
    have hkn : k < n := by omega
    have h16 := T.2.2.2
    generalize hz : uG z (gv b) (mapN k (bF z b w) (z.1 (gv b))) = z' at R
    have h2 : z'.2 = z.2 := by rw [← hz]; rfl
    have T' : TW z' b n := by rw [← hz]; exact T
    have hv := T'.v hkn
    have hms := T'.m hkn
    have hrow : z'.1 (gv b) k = z.1 (gv b) k := by rw [← hz]; exact uG_row _ _ _ _
    have hwd : z'.1 1 = z.1 1 := by rw [← hz]; cases b <;> rfl
    have hmk : z'.1 4 = z.1 4 := by rw [← hz]; cases b <;> rfl
    have hkw : kWind z' k w = kWind z k w := by rw [← hz]; cases b <;> rfl
    obtain ⟨h1, e1, R1⟩ := s_blow R (b := b) (j := k) (w := w) hv hms (by rw [h2]; exact hw) (by rw [hwd]; exact hd) (by rw [hmk, hrow]; exact hq k hkn)
    rw [hmk, hkw, hwd, hrow] at R1
    have R1 : Rp G (uG z (gv b) (mapN (k + 1) (bF z b w) (z.1 (gv b)))) h1 := by
      rw [← uG_mapN, hz]
      exact R1
    obtain ⟨h', e', R'⟩ := ih (k + 1) fuel h1 (by omega) (by omega) R1
    refine ⟨h', ?_, R'⟩
    rw [← h2] at e' ⊢
    show f_X3_blowOnAll_b2_body G (f_X3_blowOnAll_b2 G fuel) (z'.2.2.2 (btn b)) (z'.2.2.2 (bwn w)) (nI k) h = _
    simp only [f_X3_blowOnAll_b2_body, g_tn_0 R, rd_s, bd_s, c_oL R (lb_lt b), s_szv R T', if_neg (nI_ge hkn (show n < 2 ^ 31 by omega)), s_getv R T' hkn, c_ovn R hv, e1, nI_1, e']
theorem s_blowOnAll {G : GE} {z : Zs} {h : PH} (R : Rp G z h) {b : Bool} {n : Nat} (T : TW z b n) {w : Nat} (hw : w < z.2.1 0) (hd : isD (z.1 1 w 0)) (hq : ∀ j, j < n → ¬ ((z.1 4 j 3 + (4 : Int32)) + z.1 (gv b) j 5) ≤ 0) : ∃ h', f_X3_blowOnAll G (z.2.2.2 (btn b)) (z.2.2.2 (bwn w)) h = some ((), h') ∧ Rp G (uG z (gv b) (mapN n (bF z b w) (z.1 (gv b)))) h' :=
  sl_blowOnAll T hw hd hq n 0 LF h (by omega) (by have := T.2.2.2; unfold LF; omega) (by rw [mapN_0, uG_id]; exact R)
theorem sl_rainOnAll {G : GE} {z : Zs} {b : Bool} {n : Nat} (T : TW z b n)  : ∀ d k fuel h, k + d = n → d < fuel → Rp G (uG z (gv b) (mapN k (nF z b) (z.1 (gv b)))) h → ∃ h', f_X3_rainOnAll_b2 G fuel (z.2.2.2 (btn b)) (nI k) h = some ((), h') ∧ Rp G (uG z (gv b) (mapN n (nF z b) (z.1 (gv b)))) h' := by
  intro d
  induction d with
  | zero =>
    intro k fuel h hk hf R
    obtain ⟨fuel, rfl⟩ : ∃ q, fuel = q + 1 := ⟨fuel - 1, by omega⟩
    obtain rfl : k = n := by omega
    refine ⟨h, ?_, R⟩
    generalize hz : uG z (gv b) (mapN k (nF z b) (z.1 (gv b))) = z' at R
    have h2 : z'.2 = z.2 := by rw [← hz]; rfl
    have T' : TW z' b k := by rw [← hz]; exact T
    rw [← h2]
    show f_X3_rainOnAll_b2_body G (f_X3_rainOnAll_b2 G fuel) (z'.2.2.2 (btn b)) (nI k) h = _
    simp only [f_X3_rainOnAll_b2_body, g_tn_0 R, rd_s, bd_s, c_oL R (lb_lt b), s_szv R T', if_pos (Int32.le_refl _)]
  | succ d ih =>
    intro k fuel h hk hf R
    obtain ⟨fuel, rfl⟩ : ∃ q, fuel = q + 1 := ⟨fuel - 1, by omega⟩
    have hkn : k < n := by omega
    have h16 := T.2.2.2
    generalize hz : uG z (gv b) (mapN k (nF z b) (z.1 (gv b))) = z' at R
    have h2 : z'.2 = z.2 := by rw [← hz]; rfl
    have T' : TW z' b n := by rw [← hz]; exact T
    have hv := T'.v hkn
    have hms := T'.m hkn
    have hrow : z'.1 (gv b) k = z.1 (gv b) k := by rw [← hz]; exact uG_row _ _ _ _
    obtain ⟨h1, e1, R1⟩ := s_takeRain R (b := b) (j := k) hv
    rw [hrow] at R1
    have R1 : Rp G (uG z (gv b) (mapN (k + 1) (nF z b) (z.1 (gv b)))) h1 := by
      rw [← uG_mapN, hz]
      exact R1
    obtain ⟨h', e', R'⟩ := ih (k + 1) fuel h1 (by omega) (by omega) R1
    refine ⟨h', ?_, R'⟩
    rw [← h2] at e' ⊢
    show f_X3_rainOnAll_b2_body G (f_X3_rainOnAll_b2 G fuel) (z'.2.2.2 (btn b)) (nI k) h = _
    simp only [f_X3_rainOnAll_b2_body, g_tn_0 R, rd_s, bd_s, c_oL R (lb_lt b), s_szv R T', if_neg (nI_ge hkn (show n < 2 ^ 31 by omega)), s_getv R T' hkn, c_ovn R hv, e1, nI_1, e']
theorem s_rainOnAll {G : GE} {z : Zs} {h : PH} (R : Rp G z h) {b : Bool} {n : Nat} (T : TW z b n)  : ∃ h', f_X3_rainOnAll G (z.2.2.2 (btn b)) h = some ((), h') ∧ Rp G (uG z (gv b) (mapN n (nF z b) (z.1 (gv b)))) h' :=
  sl_rainOnAll T  n 0 LF h (by omega) (by have := T.2.2.2; unfold LF; omega) (by rw [mapN_0, uG_id]; exact R)
theorem sl_giveEffect {G : GE} {z : Zs} {b : Bool} {n : Nat} (T : TW z b n) {m : Nat} (hm : m < z.2.1 1) : ∀ d k fuel h, k + d = n → d < fuel → Rp G (uG z (gv b) (mapN k (fF z b m) (z.1 (gv b)))) h → ∃ h', f_X3_giveEffect_b2 G fuel (z.2.2.2 (btn b)) (z.2.2.2 (bmo m)) (nI k) h = some ((), h') ∧ Rp G (uG z (gv b) (mapN n (fF z b m) (z.1 (gv b)))) h' := by
  intro d
  induction d with
  | zero =>
    intro k fuel h hk hf R
    obtain ⟨fuel, rfl⟩ : ∃ q, fuel = q + 1 := ⟨fuel - 1, by omega⟩
    obtain rfl : k = n := by omega
    refine ⟨h, ?_, R⟩
    generalize hz : uG z (gv b) (mapN k (fF z b m) (z.1 (gv b))) = z' at R
    have h2 : z'.2 = z.2 := by rw [← hz]; rfl
    have T' : TW z' b k := by rw [← hz]; exact T
    rw [← h2]
    show f_X3_giveEffect_b2_body G (f_X3_giveEffect_b2 G fuel) (z'.2.2.2 (btn b)) (z'.2.2.2 (bmo m)) (nI k) h = _
    simp only [f_X3_giveEffect_b2_body, g_tn_0 R, rd_s, bd_s, c_oL R (lb_lt b), s_szv R T', if_pos (Int32.le_refl _)]
  | succ d ih =>
    intro k fuel h hk hf R
    obtain ⟨fuel, rfl⟩ : ∃ q, fuel = q + 1 := ⟨fuel - 1, by omega⟩
    have hkn : k < n := by omega
    have h16 := T.2.2.2
    generalize hz : uG z (gv b) (mapN k (fF z b m) (z.1 (gv b))) = z' at R
    have h2 : z'.2 = z.2 := by rw [← hz]; rfl
    have T' : TW z' b n := by rw [← hz]; exact T
    have hv := T'.v hkn
    have hms := T'.m hkn
    have hrow : z'.1 (gv b) k = z.1 (gv b) k := by rw [← hz]; exact uG_row _ _ _ _
    have hmt : z'.1 2 = z.1 2 := by rw [← hz]; cases b <;> rfl
    have hm2 : m < z'.2.1 1 := by rw [h2]; exact hm
    obtain ⟨h1, e1, R1⟩ := s_takeEffect R (b := b) (j := k) hv (z'.1 2 m 3) (kSide (z'.1 2 m 0) (z'.1 2 m 1) (z'.1 (gv b) k 6))
    rw [hrow, hmt] at R1
    have R1 : Rp G (uG z (gv b) (mapN (k + 1) (fF z b m) (z.1 (gv b)))) h1 := by
      rw [← uG_mapN, hz]
      exact R1
    obtain ⟨h', e', R'⟩ := ih (k + 1) fuel h1 (by omega) (by omega) R1
    refine ⟨h', ?_, R'⟩
    rw [← h2] at e' ⊢
    show f_X3_giveEffect_b2_body G (f_X3_giveEffect_b2 G fuel) (z'.2.2.2 (btn b)) (z'.2.2.2 (bmo m)) (nI k) h = _
    simp only [f_X3_giveEffect_b2_body, g_tn_0 R, rd_s, bd_s, c_oL R (lb_lt b), s_szv R T', if_neg (nI_ge hkn (show n < 2 ^ 31 by omega)), s_getv R T' hkn, c_ovn R hv, g_mo_4 R hm2, c_omo R hm2, s_sideOf R hm2 hv, e1, nI_1, e']
theorem s_giveEffect {G : GE} {z : Zs} {h : PH} (R : Rp G z h) {b : Bool} {n : Nat} (T : TW z b n) {m : Nat} (hm : m < z.2.1 1) : ∃ h', f_X3_giveEffect G (z.2.2.2 (btn b)) (z.2.2.2 (bmo m)) h = some ((), h') ∧ Rp G (uG z (gv b) (mapN n (fF z b m) (z.1 (gv b)))) h' :=
  sl_giveEffect T hm n 0 LF h (by omega) (by have := T.2.2.2; unfold LF; omega) (by rw [mapN_0, uG_id]; exact R)
theorem sl_copyAllFrom {G : GE} {z : Zs} {n : Nat} (T6 : TW z false n) (T7 : TW z true n) : ∀ d k fuel h, k + d = n → d < fuel → Rp G (uG z 7 (mapN k (oF z) (z.1 7))) h → ∃ h', f_X3_copyAllFrom_b2 G fuel (z.2.2.2 (btn true)) (z.2.2.2 (btn false)) (nI k) h = some ((), h') ∧ Rp G (uG z 7 (mapN n (oF z) (z.1 7))) h' := by
  intro d
  induction d with
  | zero =>
    intro k fuel h hk hf R
    obtain ⟨fuel, rfl⟩ : ∃ q, fuel = q + 1 := ⟨fuel - 1, by omega⟩
    obtain rfl : k = n := by omega
    refine ⟨h, ?_, R⟩
    generalize hz : uG z 7 (mapN k (oF z) (z.1 7)) = z' at R
    have h2 : z'.2 = z.2 := by rw [← hz]; rfl
    have T7' : TW z' true k := by rw [← hz]; exact T7
    rw [← h2]
    show f_X3_copyAllFrom_b2_body G (f_X3_copyAllFrom_b2 G fuel) (z'.2.2.2 (btn true)) (z'.2.2.2 (btn false)) (nI k) h = _
    simp only [f_X3_copyAllFrom_b2_body, g_tn_0 R, rd_s, bd_s, c_oL R (lb_lt _), s_szv R T7', if_pos (Int32.le_refl _), f_X3_copyAllFrom_b55]
  | succ d ih =>
    intro k fuel h hk hf R
    obtain ⟨fuel, rfl⟩ : ∃ q, fuel = q + 1 := ⟨fuel - 1, by omega⟩
    have hkn : k < n := by omega
    have h16 := T6.2.2.2
    generalize hz : uG z 7 (mapN k (oF z) (z.1 7)) = z' at R
    have h2 : z'.2 = z.2 := by rw [← hz]; rfl
    have T7' : TW z' true n := by rw [← hz]; exact T7
    have T6' : TW z' false n := by rw [← hz]; exact T6
    have hrow : z'.1 7 k = z.1 7 k := by rw [← hz]; exact uG_row _ _ _ _
    have hro : z'.1 6 = z.1 6 := by rw [← hz]; rfl
    obtain ⟨h1, e1, R1⟩ := s_copyFrom R (j := k) (T6'.v hkn) (T7'.v hkn)
    have hF : oF z' k = oF z k := by rw [oF, oF, hrow, hro]
    have R1 : Rp G (uG z 7 (mapN (k + 1) (oF z) (z.1 7))) h1 := by
      rw [← uG_mapN, hz, ← hF]
      exact R1
    obtain ⟨h', e', R'⟩ := ih (k + 1) fuel h1 (by omega) (by omega) R1
    refine ⟨h', ?_, R'⟩
    rw [← h2] at e' ⊢
    show f_X3_copyAllFrom_b2_body G (f_X3_copyAllFrom_b2 G fuel) (z'.2.2.2 (btn true)) (z'.2.2.2 (btn false)) (nI k) h = _
    simp only [f_X3_copyAllFrom_b2_body, g_tn_0 R, rd_s, bd_s, c_oL R (lb_lt _), s_szv R T7', s_szv R T6', if_neg (nI_ge hkn (show n < 2 ^ 31 by omega)), s_getv R T7' hkn, s_getv R T6' hkn, c_ovn R (T7'.v hkn), c_ovn R (T6'.v hkn), e1, nI_1, e']
theorem s_copyAllFrom {G : GE} {z : Zs} {h : PH} (R : Rp G z h) {n : Nat} (T6 : TW z false n) (T7 : TW z true n) : ∃ h', f_X3_copyAllFrom G (z.2.2.2 (btn true)) (z.2.2.2 (btn false)) h = some ((), h') ∧ Rp G (uG z 7 (mapN n (oF z) (z.1 7))) h' :=
  sl_copyAllFrom T6 T7 n 0 LF h (by omega) (by have := T6.2.2.2; unfold LF; omega) (by rw [mapN_0, uG_id]; exact R)
theorem nI_rem {t n : Nat} (ht : t < 2 ^ 31) (h0 : 0 < n) (hn : n < 2 ^ 31) : nI t - nI t / nI n * nI n = nI (t % n) := by
  rw [pk_div ht h0 hn, pk_mul]
  have h1 : nI t = nI (t % n) + nI (t / n * n) := by rw [nI_add, Nat.mod_add_div']
  rw [h1, Int32.add_sub_cancel]
/-- the counts -/
def CN (z : Zs) (n : Nat) : Prop := z.2.1 50 = z.2.1 0 ∧ 1 ≤ z.2.1 0 ∧ z.2.1 0 ≤ 24 ∧ z.2.1 51 = z.2.1 1 ∧ z.2.1 1 ≤ 12 ∧ z.2.1 52 = z.2.1 2 ∧ z.2.1 2 ≤ 20 ∧ TW z false n ∧ TW z true n
theorem CN.t {z : Zs} {n : Nat} (C : CN z n) (b : Bool) : TW z b n := by
  cases b
  · exact C.2.2.2.2.2.2.2.1
  · exact C.2.2.2.2.2.2.2.2
theorem s_windAt {G : GE} {z : Zs} {h : PH} (R : Rp G z h) {n t : Nat} (C : CN z n) (ht : t < 2 ^ 31) : f_X6_windAt G (z.2.2.2 bV) (nI t) h = some (z.2.2.2 (bwn (t % z.2.1 0)), h) := by
  obtain ⟨h1, h2, h3, -⟩ := C
  have hlt : t % z.2.1 0 < z.2.1 0 := Nat.mod_lt _ h2
  have hg := s_get R (k := 0) (j := t % z.2.1 0) (by decide) (by rw [show z.2.1 (50 + 0) = z.2.1 0 from h1]; exact hlt)
  have hs : f_Jx4a65c_size_8abf5 G (z.2.2.2 (bL 0)) h = some (nI (z.2.1 0), h) := by rw [s_size R (by decide), show z.2.1 (50 + 0) = z.2.1 0 from h1]
  simp only [f_X6_windAt, g_V_1 R, rd_s, bd_s, c_oL R (show 0 < 5 by decide), hs, if_neg (show ¬ nI (z.2.1 0) < (1 : Int32) from nI_nlt (b := 1) h2 (by omega)), if_pos (nI_pos' ht), nz, if_neg (nI_ne0 (show 0 < z.2.1 0 from h2) (by omega)), nI_rem ht (show 0 < z.2.1 0 from h2) (show z.2.1 0 < 2 ^ 31 by omega), hg, el, c_own R hlt]
