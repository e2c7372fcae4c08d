/-! ===== lee of masts ===== -/
def iL (xa ya xb yb : Int32) (e : Nat) : Nat → Nat → Int32
  | 0, _ => 0
  | f + 1, d => if xb = xa + nI d * csF e then (if yb = ya + nI d * rsF e then 1 else iL xa ya xb yb e f (d + 1)) else iL xa ya xb yb e f (d + 1)
def gL (f : Nat → Nat → Int32) (a b e : Nat) : Int32 := if f a 2 < f b 2 then iL (f a 0) (f a 1) (f b 0) (f b 1) e 3 1 else 0
theorem ti_in {β : Type} {e : Nat} (he : e < 8) (F : Option β) : ti (nI e) F = F := by
  unfold ti
  rw [nI_clamp (by omega)]
  have h1 := nI_pos (show e < 2 ^ 31 by omega)
  rw [if_pos (fun h => h.elim h1 (fun h => by omega))]
theorem sl_inLine {G : GE} {z : Zs} {h : PH} (R : Rp G z h) {a b e : Nat} (ha : a < z.2.1 3) (hb : b < z.2.1 3) (he : e < 8) : ∀ f d fuel, d + f = 4 → f < fuel → f_X1_isInLine_b24 G fuel (z.2.2.2 (bms a)) (z.2.2.2 (bms b)) (nI e) (nI d) h = some (iL (z.1 4 a 0) (z.1 4 a 1) (z.1 4 b 0) (z.1 4 b 1) e f d, h) := by
  intro f
  induction f with
  | zero =>
    intro d fuel hk hf
    obtain ⟨fuel, rfl⟩ : ∃ q, fuel = q + 1 := ⟨fuel - 1, by omega⟩
    obtain rfl : d = 4 := by omega
    show f_X1_isInLine_b24_body G (f_X1_isInLine_b24 G fuel) (z.2.2.2 (bms a)) (z.2.2.2 (bms b)) (nI e) (nI 4) h = _
    simp only [f_X1_isInLine_b24_body, if_pos (show (3 : Int32) < nI 4 by decide), z1_0, iL]
  | succ f ih =>
    intro d fuel hk hf
    obtain ⟨fuel, rfl⟩ : ∃ q, fuel = q + 1 := ⟨fuel - 1, by omega⟩
    have hd : ¬ (3 : Int32) < nI d := nI_nlt (a := 3) (b := d) (by omega) (by omega)
    show f_X1_isInLine_b24_body G (f_X1_isInLine_b24 G fuel) (z.2.2.2 (bms a)) (z.2.2.2 (bms b)) (nI e) (nI d) h = _
    simp only [f_X1_isInLine_b24_body, if_neg hd, g_ms_0 R ha, g_ms_0 R hb, g_ms_1 R ha, g_ms_1 R hb, rd_s, ti_in he, nI_clamp (show e < 2 ^ 31 by omega), f_X1_isInLine_b69, nI_1, ih (d + 1) fuel (by omega) (by omega), z1_1, iL]
    repeat' split
    all_goals rfl
theorem s_isInLine {G : GE} {z : Zs} {h : PH} (R : Rp G z h) {a b e : Nat} (ha : a < z.2.1 3) (hb : b < z.2.1 3) (he : e < 8) : f_X1_isInLine G (z.2.2.2 (bms a)) (z.2.2.2 (bms b)) (nI e) h = some (iL (z.1 4 a 0) (z.1 4 a 1) (z.1 4 b 0) (z.1 4 b 1) e 3 1, h) := by
  have t := sl_inLine R ha hb he 3 1 LF (by omega) (by unfold LF; omega)
  have t : f_X1_isInLine_b24 G LF (z.2.2.2 (bms a)) (z.2.2.2 (bms b)) (nI e) (1 : Int32) h = _ := t
  rw [f_X1_isInLine, if_neg (nI_pos (by omega)), if_neg (show ¬ (8 : Int32) ≤ nI e from nI_ge he (by decide)), if_pos (show nI e < (8 : Int32) from nI_lt (b := 8) he (by decide)), t]
theorem iL_01 (xa ya xb yb : Int32) (e : Nat) : ∀ f d, iL xa ya xb yb e f d = 0 ∨ iL xa ya xb yb e f d = 1 := by
  intro f
  induction f with
  | zero => intro d; exact Or.inl rfl
  | succ f ih =>
    intro d
    rw [iL]
    split
    · split
      · exact Or.inr rfl
      · exact ih _
    · exact ih _
/-- a row laid up to k -/
def mR (k : Nat) (F f : Nat → Int32) : Nat → Int32 := fun e => if e < k then F e else f e
theorem mR_0 (F f : Nat → Int32) : mR 0 F f = f := rfl
theorem mR_s (k : Nat) (F f : Nat → Int32) : u1 (mR k F f) k (F k) = mR (k + 1) F f := by
  funext e
  unfold u1 mR
  by_cases c : e = k
  · rw [if_pos c, if_pos (by omega), c]
  · rw [if_neg c]
    by_cases c2 : e < k
    · rw [if_pos c2, if_pos (by omega)]
    · rw [if_neg c2, if_neg (by omega)]
theorem mR_k (k : Nat) (F f : Nat → Int32) : mR k F f k = f k := if_neg (Nat.lt_irrefl k)
theorem mR_lt {k e : Nat} (F f : Nat → Int32) (h : e < k) : mR k F f e = F e := if_pos h
theorem mR_i (k : Nat) (F f : Nat → Int32) (h : F k = f k) : mR (k + 1) F f = mR k F f := by
  rw [← mR_s]
  funext e
  unfold u1
  by_cases c : e = k
  · rw [if_pos c, c, mR_k, h]
  · rw [if_neg c]
def lkF (z : Zs) (a b e : Nat) : Int32 := z.1 5 a e + gL (z.1 4) a b e
theorem sl_lookAt {G : GE} {z : Zs} {a b : Nat} (ha : a < z.2.1 3) (hb : b < z.2.1 3) (hh : z.1 4 a 2 < z.1 4 b 2) : ∀ d k fuel h, k + d = 8 → d < fuel → Rp G (uR z 5 a (mR k (lkF z a b) (z.1 5 a))) h → ∃ h', f_X1_lookAt_b14 G fuel (z.2.2.2 (bms a)) (z.2.2.2 (bms b)) (nI k) h = some ((), h') ∧ Rp G (uR z 5 a (mR 8 (lkF z a b) (z.1 5 a))) h' := by
  intro d
  induction d with
  | zero =>
    intro k fuel h hk hf R
    obtain ⟨fuel, rfl⟩ : ∃ q, fuel = q + 1 := ⟨fuel - 1, by omega⟩
    obtain rfl : k = 8 := by omega
    have g4 : gR 2 h (z.2.2.2 (bms a)) 4 = some (z.2.2.2 (bho a)) := by have t := g_ms_4 R (i := a) ha; exact t
    have hl : aLen G h (z.2.2.2 (bho a)) = some (nI 8) := by have t := aLen_of (G := G) (R.at (e_ho (i := a) ha)) (by decide) (R.de (e_ho (i := a) ha)); exact t
    refine ⟨h, ?_, R⟩
    show f_X1_lookAt_b14_body G (f_X1_lookAt_b14 G fuel) (z.2.2.2 (bms a)) (z.2.2.2 (bms b)) (nI 8) h = _
    simp only [f_X1_lookAt_b14_body, g4, rd_s, hl, if_pos (Int32.le_refl _)]
  | succ d ih =>
    intro k fuel h hk hf R
    obtain ⟨fuel, rfl⟩ : ∃ q, fuel = q + 1 := ⟨fuel - 1, by omega⟩
    have hk8 : k < 8 := by omega
    have g4 : gR 2 h (z.2.2.2 (bms a)) 4 = some (z.2.2.2 (bho a)) := by have t := g_ms_4 R (i := a) ha; exact t
    have hl : aLen G h (z.2.2.2 (bho a)) = some (nI 8) := by have t := aLen_of (G := G) (R.at (e_ho (i := a) ha)) (by decide) (R.de (e_ho (i := a) ha)); exact t
    have i2 : isC 2 h (z.2.2.2 (bms a)) = some () := by have t := c_oms R (i := a) ha; exact t
    have il : f_X1_isInLine G (z.2.2.2 (bms a)) (z.2.2.2 (bms b)) (nI k) h = some (iL (z.1 4 a 0) (z.1 4 a 1) (z.1 4 b 0) (z.1 4 b 1) k 3 1, h) := by have t := s_isInLine R (a := a) (b := b) ha hb hk8; exact t
    have hF : lkF z a b k = z.1 5 a k + iL (z.1 4 a 0) (z.1 4 a 1) (z.1 4 b 0) (z.1 4 b 1) k 3 1 := by
      unfold lkF gL
      rw [if_pos hh]
    by_cases c : iL (z.1 4 a 0) (z.1 4 a 1) (z.1 4 b 0) (z.1 4 b 1) k 3 1 = 0
    · have R' : Rp G (uR z 5 a (mR (k + 1) (lkF z a b) (z.1 5 a))) h := by
        rw [mR_i _ _ _ (by rw [hF, c, Int32.add_zero])]
        exact R
      obtain ⟨h', e', R'⟩ := ih (k + 1) fuel h (by omega) (by omega) R'
      refine ⟨h', ?_, R'⟩
      show f_X1_lookAt_b14_body G (f_X1_lookAt_b14 G fuel) (z.2.2.2 (bms a)) (z.2.2.2 (bms b)) (nI k) h = _
      simp only [f_X1_lookAt_b14_body, g4, rd_s, hl, if_neg (nI_ge hk8 (by decide)), i2, il, bd_s, if_pos c, f_X1_lookAt_b42, nI_1, e']
    · have c1 := (iL_01 (z.1 4 a 0) (z.1 4 a 1) (z.1 4 b 0) (z.1 4 b 1) k 3 1).resolve_left c
      have r1 : aI h (z.2.2.2 (bho a)) (nI k) = some (z.1 5 a k) := by
        have t := r_ho R (i := a) (j := k) ha hk8
        rw [uR_s, mR_k] at t
        exact t
      obtain ⟨h1, e1, R1⟩ := w_ho R (i := a) (j := k) ha hk8 (z.1 5 a k + 1)
      have e1 : aIs h (z.2.2.2 (bho a)) (nI k) (z.1 5 a k + 1) = some h1 := e1
      rw [uI_uR, show z.1 5 a k + 1 = lkF z a b k by rw [hF, c1], mR_s] at R1
      obtain ⟨h', e', R'⟩ := ih (k + 1) fuel h1 (by omega) (by omega) R1
      refine ⟨h', ?_, R'⟩
      show f_X1_lookAt_b14_body G (f_X1_lookAt_b14 G fuel) (z.2.2.2 (bms a)) (z.2.2.2 (bms b)) (nI k) h = _
      simp only [f_X1_lookAt_b14_body, g4, rd_s, hl, if_neg (nI_ge hk8 (by decide)), i2, il, bd_s, if_neg c, r1, e1, f_X1_lookAt_b42, nI_1, e']
theorem s_lookAt {G : GE} {z : Zs} {h : PH} (R : Rp G z h) {a b : Nat} (ha : a < z.2.1 3) (hb : b < z.2.1 3) : ∃ h', f_X1_lookAt G (z.2.2.2 (bms a)) (z.2.2.2 (bms b)) h = some ((), h') ∧ Rp G (uR z 5 a (mR 8 (lkF z a b) (z.1 5 a))) h' := by
  by_cases hh : z.1 4 a 2 < z.1 4 b 2
  · obtain ⟨h', e', R'⟩ := sl_lookAt ha hb hh 8 0 LF h (by omega) (by unfold LF; omega) (by rw [mR_0, uR_id]; exact R)
    have e' : f_X1_lookAt_b14 G LF (z.2.2.2 (bms a)) (z.2.2.2 (bms b)) (0 : Int32) h = some ((), h') := e'
    refine ⟨h', ?_, R'⟩
    simp only [f_X1_lookAt, g_ms_2 R ha, g_ms_2 R hb, rd_s, if_pos hh, e']
  · refine ⟨h, ?_, ?_⟩
    · simp only [f_X1_lookAt, g_ms_2 R ha, g_ms_2 R hb, rd_s, if_neg hh]
    · have : mR 8 (lkF z a b) (z.1 5 a) = z.1 5 a := by
        funext e
        unfold mR lkF gL
        rw [if_neg hh, Int32.add_zero]
        split <;> rfl
      rw [this, uR_id]
      exact R
/-- the higher ones after i of n masts were looked at by the mast n -/
def hoG (z : Zs) (n i : Nat) : Nat → Nat → Int32 := fun j => if j = n then mR 8 (fun e => sumV (fun u => gL (z.1 4) n u e) i) (fun _ => 0) else if j < i then mR 8 (fun e => z.1 5 j e + gL (z.1 4) j n e) (z.1 5 j) else z.1 5 j
theorem sl_shelter {G : GE} {z : Zs} {n : Nat} (T : TW z false n) (h3 : n < z.2.1 3) : ∀ d i fuel h, i + d = n → d < fuel → Rp G (uG z 5 (hoG z n i)) h → ∃ h', f_X3_shelter_b2 G fuel (z.2.2.2 (btn false)) (z.2.2.2 (bms n)) (nI i) h = some ((), h') ∧ Rp G (uG z 5 (hoG z n n)) h' := by
  have h16 := T.2.2.2
  intro d
  induction d with
  | zero =>
    intro i fuel h hk hf R
    obtain ⟨fuel, rfl⟩ : ∃ q, fuel = q + 1 := ⟨fuel - 1, by omega⟩
    obtain rfl : i = n := by omega
    have u2 : gR 4 h (z.2.2.2 (btn false)) 0 = some (z.2.2.2 (bL (lb false))) := by have t := g_tn_0 R (b := false); exact t
    have u3 : isC 0 h (z.2.2.2 (bL (lb false))) = some () := by have t := c_oL R (lb_lt false); exact t
    have u4 : f_Jx4a65c_size_8abf5 G (z.2.2.2 (bL (lb false))) h = some (nI i, h) := by have t := s_szv R (b := false) (n := i) T; exact t
    refine ⟨h, ?_, R⟩
    show f_X3_shelter_b2_body G (f_X3_shelter_b2 G fuel) (z.2.2.2 (btn false)) (z.2.2.2 (bms i)) (nI i) h = _
    simp only [f_X3_shelter_b2_body, u2, rd_s, u3, u4, bd_s, if_pos (Int32.le_refl _)]
  | succ d ih =>
    intro i fuel h hk hf R
    obtain ⟨fuel, rfl⟩ : ∃ q, fuel = q + 1 := ⟨fuel - 1, by omega⟩
    have hi : i < n := by omega
    have hin : ¬ i = n := by omega
    have hni : ¬ n = i := by omega
    have rd1 : ∀ {y : Zs} {h : PH}, Rp G y h → y.2 = z.2 → gR 4 h (z.2.2.2 (btn false)) 0 = some (z.2.2.2 (bL (lb false))) ∧ isC 0 h (z.2.2.2 (bL (lb false))) = some () ∧ f_Jx4a65c_get_915e3 G (z.2.2.2 (bL (lb false))) (nI i) h = some (z.2.2.2 (bvn false i), h) ∧ isC 5 h (z.2.2.2 (bvn false i)) = some () ∧ gR 5 h (z.2.2.2 (bvn false i)) 0 = some (z.2.2.2 (bms i)) := fun {y h} R e => by
      have T' : TW y false n := by unfold TW; rw [e]; exact T
      rw [← e]
      exact ⟨g_tn_0 R, c_oL R (lb_lt _), s_getv R T' hi, c_ovn R (T'.v hi), g_vn_0 R (T'.v hi)⟩
    have u4 : f_Jx4a65c_size_8abf5 G (z.2.2.2 (bL (lb false))) h = some (nI n, h) := by have t := s_szv R (b := false) (n := n) T; exact t
    obtain ⟨u1', u2', u3', u5', u6'⟩ := rd1 R rfl
    have c1 : isC 2 h (z.2.2.2 (bms n)) = some () := by have t := c_oms R (i := n) h3; exact t
    obtain ⟨h1, e1, R1⟩ := s_lookAt R (a := n) (b := i) h3 (show i < z.2.1 3 by omega)
    have e1 : f_X1_lookAt G (z.2.2.2 (bms n)) (z.2.2.2 (bms i)) h = some ((), h1) := e1
    obtain ⟨w1, w2, w3, w5, w6⟩ := rd1 R1 rfl
    have c2 : isC 2 h1 (z.2.2.2 (bms i)) = some () := by have t := c_oms R1 (i := i) (show i < z.2.1 3 by omega); exact t
    obtain ⟨h2, e2, R2⟩ := s_lookAt R1 (a := i) (b := n) (show i < z.2.1 3 by omega) h3
    have e2 : f_X1_lookAt G (z.2.2.2 (bms i)) (z.2.2.2 (bms n)) h1 = some ((), h2) := e2
    have hw : ∀ (y : Zs) (r s : Nat → Int32), y = uR (uR (uG z 5 (hoG z n i)) 5 n r) 5 i s → r = hoG z n (i + 1) n → s = hoG z n (i + 1) i → y = uG z 5 (hoG z n (i + 1)) := by
      intro y r s hy hr hs
      rw [hy]
      simp only [uR, uG_s, uG_uG]
      congr 1
      funext j
      unfold u1
      by_cases c : j = i
      · rw [if_pos c, hs, c]
      · rw [if_neg c]
        by_cases c' : j = n
        · rw [if_pos c', hr, c']
        · rw [if_neg c']
          unfold hoG
          rw [if_neg c', if_neg c']
          by_cases c2 : j < i
          · rw [if_pos c2, if_pos (by omega)]
          · rw [if_neg c2, if_neg (by omega)]
    have e4 : (uG z 5 (hoG z n i)).1 4 = z.1 4 := rfl
    have e5 : (uG z 5 (hoG z n i)).1 5 = hoG z n i := uG_s _ _ _
    have R3 : Rp G (uG z 5 (hoG z n (i + 1))) h2 := by
      refine (hw _ _ _ rfl ?_ ?_) ▸ R2
      · funext e
        unfold mR lkF
        rw [e4, e5]
        unfold hoG
        rw [if_pos rfl, if_pos rfl]
        unfold mR
        by_cases c : e < 8
        · rw [if_pos c, if_pos c, if_pos c]
          rfl
        · rw [if_neg c, if_neg c, if_neg c]
      · have e4' : ∀ r, (uR (uG z 5 (hoG z n i)) 5 n r).1 4 = z.1 4 := fun r => rfl
        have e5' : ∀ r, (uR (uG z 5 (hoG z n i)) 5 n r).1 5 i = z.1 5 i := fun r => by
          rw [uR_n _ _ (fun q => hin q.2), e5]
          unfold hoG
          rw [if_neg hin, if_neg (Nat.lt_irrefl i)]
        funext e
        unfold mR lkF
        rw [e4', e5']
        unfold hoG
        rw [if_neg hin, if_pos (Nat.lt_succ_self i)]
        rfl
    obtain ⟨h', e', R'⟩ := ih (i + 1) fuel h2 (by omega) (by omega) R3
    refine ⟨h', ?_, R'⟩
    show f_X3_shelter_b2_body G (f_X3_shelter_b2 G fuel) (z.2.2.2 (btn false)) (z.2.2.2 (bms n)) (nI i) h = _
    simp only [f_X3_shelter_b2_body, u1', rd_s, u2', u4, bd_s, if_neg (nI_ge hi (show n < 2 ^ 31 by omega)), u3', u5', u6', c1, e1, w1, w2, w3, w5, w6, c2, e2, nI_1, e']
theorem cs_dx : ∀ e, e < 8 → dxE (nI e) = csF e ∧ dyE (nI e) = rsF e := by decide +kernel
theorem cs_ex : ∀ e, e < 8 → ¬ (1 * csF e = 2 * csF e ∧ 1 * rsF e = 2 * rsF e) ∧ ¬ (1 * csF e = 3 * csF e ∧ 1 * rsF e = 3 * rsF e) ∧ ¬ (2 * csF e = 3 * csF e ∧ 2 * rsF e = 3 * rsF e) := by decide +kernel
theorem ite_and2 {α : Type} {A B : Prop} [Decidable A] [Decidable B] (x y : α) : (if A then (if B then x else y) else y) = if A ∧ B then x else y := by
  by_cases a : A
  · by_cases b : B
    · rw [if_pos a, if_pos b, if_pos ⟨a, b⟩]
    · rw [if_pos a, if_neg b, if_neg (fun q => b q.2)]
  · rw [if_neg a, if_neg (fun q => a q.1)]
theorem tri (z : Zs) (b : Bool) (v u : Nat) {e : Nat} (he : e < 8) : mT z b v (dxE (nI e)) (dyE (nI e)) 1 u + mT z b v (dxE (nI e)) (dyE (nI e)) 2 u + mT z b v (dxE (nI e)) (dyE (nI e)) 3 u = gL (z.1 (gm b 2)) v u e := by
  obtain ⟨h1, h2⟩ := cs_dx e he
  obtain ⟨k1, k2, k3⟩ := cs_ex e he
  rw [h1, h2]
  unfold mT gL
  generalize z.1 (gm b 2) = f
  have x12 : f u 0 = f v 0 + 1 * csF e → f u 1 = f v 1 + 1 * rsF e → f u 0 = f v 0 + 2 * csF e → f u 1 = f v 1 + 2 * rsF e → False := fun a b c d => k1 ⟨(Int32.add_right_inj (f v 0)).mp (a.symm.trans c), (Int32.add_right_inj (f v 1)).mp (b.symm.trans d)⟩
  have x13 : f u 0 = f v 0 + 1 * csF e → f u 1 = f v 1 + 1 * rsF e → f u 0 = f v 0 + 3 * csF e → f u 1 = f v 1 + 3 * rsF e → False := fun a b c d => k2 ⟨(Int32.add_right_inj (f v 0)).mp (a.symm.trans c), (Int32.add_right_inj (f v 1)).mp (b.symm.trans d)⟩
  have x23 : f u 0 = f v 0 + 2 * csF e → f u 1 = f v 1 + 2 * rsF e → f u 0 = f v 0 + 3 * csF e → f u 1 = f v 1 + 3 * rsF e → False := fun a b c d => k3 ⟨(Int32.add_right_inj (f v 0)).mp (a.symm.trans c), (Int32.add_right_inj (f v 1)).mp (b.symm.trans d)⟩
  have hle : (f u 2 ≤ f v 2) ↔ ¬ (f v 2 < f u 2) := Int32.not_lt.symm
  simp only [iL, show nI 1 = (1 : Int32) from rfl, show nI (1 + 1) = (2 : Int32) from rfl, show nI (1 + 1 + 1) = (3 : Int32) from rfl]
  by_cases c : f v 2 < f u 2
  · have c' : ¬ f u 2 ≤ f v 2 := fun q => hle.mp q c
    simp only [if_pos c, if_neg c']
    simp only [ite_and2]
    by_cases p1 : f u 0 = f v 0 + 1 * csF e ∧ f u 1 = f v 1 + 1 * rsF e
    · have p2 : ¬ (f u 0 = f v 0 + 2 * csF e ∧ f u 1 = f v 1 + 2 * rsF e) := fun q => x12 p1.1 p1.2 q.1 q.2
      have p3 : ¬ (f u 0 = f v 0 + 3 * csF e ∧ f u 1 = f v 1 + 3 * rsF e) := fun q => x13 p1.1 p1.2 q.1 q.2
      simp only [if_pos p1, if_neg p2, if_neg p3]
      rfl
    · by_cases p2 : f u 0 = f v 0 + 2 * csF e ∧ f u 1 = f v 1 + 2 * rsF e
      · have p3 : ¬ (f u 0 = f v 0 + 3 * csF e ∧ f u 1 = f v 1 + 3 * rsF e) := fun q => x23 p2.1 p2.2 q.1 q.2
        simp only [if_neg p1, if_pos p2, if_neg p3]
        rfl
      · by_cases p3 : f u 0 = f v 0 + 3 * csF e ∧ f u 1 = f v 1 + 3 * rsF e
        · simp only [if_neg p1, if_neg p2, if_pos p3]
          rfl
        · simp only [if_neg p1, if_neg p2, if_neg p3]
          rfl
  · have c' : f u 2 ≤ f v 2 := hle.mpr c
    simp only [if_neg c, if_pos c']
    repeat' split
    all_goals rfl
theorem mLe_g (z : Zs) (b : Bool) (v n : Nat) {e : Nat} (he : e < 8) : mLe z b v (dxE (nI e)) (dyE (nI e)) n = sumV (fun u => gL (z.1 (gm b 2)) v u e) n := by
  unfold mLe
  rw [Int32.zero_add, sumV_add, sumV_add]
  exact sumV_c n (fun u _ => tri z b v u he)
theorem gL_c {f g : Nat → Nat → Int32} {a b : Nat} (e : Nat) (ha : ∀ k, k < 3 → f a k = g a k) (hb : ∀ k, k < 3 → f b k = g b k) : gL f a b e = gL g a b e := by
  unfold gL
  rw [ha 0 (by decide), ha 1 (by decide), ha 2 (by decide), hb 0 (by decide), hb 1 (by decide), hb 2 (by decide)]
theorem gL_self (f : Nat → Nat → Int32) (a e : Nat) : gL f a a e = 0 := by
  unfold gL
  exact if_neg (fun h => Int32.lt_irrefl h)
