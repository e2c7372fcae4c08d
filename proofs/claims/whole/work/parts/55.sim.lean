/-! ===== the class's town and the model's state agree ===== -/
def Sim (n : Nat) (c : Zs) (b : Bool) (m : Zs) (d : Bool) : Prop :=
  (∀ j, j < n → SR (c.1 (gv b) j) (m.1 (gm d 2) j)) ∧ (∀ j k, j < n → k < 4 → c.1 4 j k = m.1 (gm d 2) j k) ∧ (∀ j e, j < n → e < 8 → c.1 5 j e = mLe m d j (dxE (nI e)) (dyE (nI e)) n) ∧
  (∀ w k, w < c.2.1 0 → k < 3 → c.1 1 w k = m.1 (gm d 1) k w) ∧ (∀ q k, q < c.2.1 1 → k < 4 → c.1 2 q k = m.1 (gm d 3) q k) ∧ ∀ q, q < c.2.1 1 → isB 16 (c.1 2 q 0)
/-- the class's side changes, but not what it is built of; so does the model's -/
theorem Sim.mk' {n : Nat} {c c' m m' : Zs} {b d : Bool} (S : Sim n c b m d) (hc : SK c c') (hm : ∀ u k, k < 4 → m'.1 (gm d 2) u k = m.1 (gm d 2) u k) (hm1 : m'.1 (gm d 1) = m.1 (gm d 1)) (hm3 : ∀ q k, k < 4 → m'.1 (gm d 3) q k = m.1 (gm d 3) q k) (hr : ∀ j, j < n → SR (c'.1 (gv b) j) (m'.1 (gm d 2) j)) : Sim n c' b m' d := by
  obtain ⟨-, s2, s3, s4, s5, s6⟩ := S
  obtain ⟨k1, k2, k3, k4, k5, k6⟩ := hc
  refine ⟨hr, fun j k hj hk => ?_, fun j e hj he => ?_, fun w k hw hk => ?_, fun q k hq hk => ?_, fun q hq => ?_⟩
  · rw [k4, hm j k hk]; exact s2 j k hj hk
  · rw [k5, mLe_c (fun u k hk => hm u k (by omega))]; exact s3 j e hj he
  · rw [k1] at hw
    rw [k2, hm1]; exact s4 w k hw hk
  · rw [k1] at hq
    rw [k6 q k hk, hm3 q k hk]; exact s5 q k hq hk
  · rw [k1] at hq
    rw [k6 q 0 (by decide)]; exact s6 q hq
theorem Sim.lee {n : Nat} {c m : Zs} {b d : Bool} (S : Sim n c b m d) (H : HB c b n) {j w : Nat} (hj : j < n) (hw : w < c.2.1 0) : kLee c j (c.1 1 w 0) = mLee m d j n w := by
  obtain ⟨e, he, h1⟩ := kEighth_in (H.2.1 w hw)
  unfold kLee mLee
  rw [← S.2.2.2.1 w 0 hw (by decide), h1, nI_clamp (by omega)]
  exact S.2.2.1 j e hj he
theorem Sim.wind {n : Nat} {c m : Zs} {b d : Bool} (S : Sim n c b m d) (H : HB c b n) {j w : Nat} (hj : j < n) (hw : w < c.2.1 0) : kWind c j w = mWind m d j n w := by
  unfold kWind mWind
  rw [S.lee H hj hw, S.2.2.2.1 w 1 hw (by decide)]
theorem Sim.side {n : Nat} {c m : Zs} {b d : Bool} (S : Sim n c b m d) (H : HB c b n) {j q : Nat} (hj : j < n) (hq : q < c.2.1 1) : kSide (c.1 2 q 0) (c.1 2 q 1) (c.1 (gv b) j 6) = mSide (m.1 (gm d 3) q 0) (m.1 (gm d 3) q 1) (m.1 (gm d 2) j 6) := by
  rw [side_eq (H.2.2.2.2 j hj).2.2.1 (S.2.2.2.2.2 q hq), S.2.2.2.2.1 q 0 hq (by decide), S.2.2.2.2.1 q 1 hq (by decide), S.1 j hj 6 (by decide) (by decide)]
theorem Sim.votes {n : Nat} {c m : Zs} {b d : Bool} (S : Sim n c b m d) (H : HB c b n) {q : Nat} (hq : q < c.2.1 1) (side : Int32) : kVotes c b q side n = mVotes m d q side n := by
  unfold kVotes mVotes
  refine sumV_c n (fun j hj => ?_)
  rw [S.side H hj hq, S.1 j hj 4 (by decide) (by decide)]
theorem Sim.carr {n : Nat} {c m : Zs} {b d : Bool} (S : Sim n c b m d) (H : HB c b n) {q : Nat} (hq : q < c.2.1 1) : kCarr c b q n = mWould m d q n := by
  have h1 := carr_eq (F := fun j => kSide (c.1 2 q 0) (c.1 2 q 1) (c.1 (gv b) j 6)) (V := fun j => c.1 (gv b) j 4) (q := c.1 2 q 2) (n := n) (H.1.t b).2.2.2 (fun j _ => kSide_T _ _ _) (fun j hj => (H.2.2.2.2 j hj).1)
  unfold kCarr mWould
  rw [← S.votes H hq 1, ← S.votes H hq (-1), ← S.2.2.2.2.1 q 2 hq (by decide)]
  exact h1
theorem mapN_lt {n j : Nat} {F f : Nat → Nat → Int32} (hj : j < n) : mapN n F f j = F j := if_pos hj
theorem Sim.blow {n t W : Nat} {c m : Zs} {b d : Bool} (S : Sim n c b m d) (H : HB c b n) (hW : c.2.1 0 = W) : Sim n (blS b n t c) b (tuS d n (t % W) m) d := by
  subst hW
  refine S.mk' (blS_SK b n t c) (fun u k hk => ?_) (uG_n _ _ (gm_ne d (by decide) (by decide) (by decide))) (fun q k _ => by unfold tuS; rw [uG_n _ _ (gm_ne d (by decide) (by decide) (by decide))]) (fun j hj => ?_)
  · unfold tuS
    rw [uG_s]
    exact mapN_c (n := n) (fun j c hc => mRow_c _ _ _ hc) u k hk
  · unfold blS tuS
    rw [uG_s, uG_s, mapN_lt hj, mapN_lt hj]
    unfold bF tF
    rw [S.wind H hj (H.wi t), ← S.2.2.2.1 _ 0 (H.wi t) (by decide)]
    exact (S.1 j hj).blow (H.2.2.2.2 j hj) (S.2.1 j 3 hj (by decide)) (H.2.1 _ (H.wi t))
theorem rRain_c (r : Nat → Int32) {k : Nat} (hk : k < 4) : rRain r k = r k := by
  unfold rRain
  split
  · rw [u1_n _ _ (by omega), u1_n _ _ (by omega)]
  · rw [u1_n _ _ (by omega)]
theorem mEf_c (eff side : Int32) (r : Nat → Int32) {k : Nat} (hk : k < 4) : mEf eff side r k = r k := by
  unfold mEf rOil
  split
  · rw [u1_n _ _ (by omega), u1_n _ _ (by omega)]
  · split
    · rw [u1_n _ _ (by omega)]
    · split
      · rw [u1_n _ _ (by omega)]
      · rfl
theorem Sim.rain {n t W : Nat} {c m : Zs} {b d : Bool} (S : Sim n c b m d) (H : HB c b n) (hW : c.2.1 0 = W) : Sim n (raS b n t c) b (raM d n (t % W) m) d := by
  subst hW
  unfold raS raM
  rw [← S.2.2.2.1 _ 2 (H.wi t) (by decide)]
  by_cases e : c.1 1 (t % c.2.1 0) 2 = 0
  · rw [if_pos e, if_pos e]
    exact S
  · rw [if_neg e, if_neg e]
    refine S.mk' (SK.uv _ _ _) (fun u k hk => ?_) (uG_n _ _ (gm_ne d (by decide) (by decide) (by decide))) (fun q k _ => by rw [uG_n _ _ (gm_ne d (by decide) (by decide) (by decide))]) (fun j hj => ?_)
    · rw [uG_s]
      exact mapN_c (n := n) (fun j c hc => rRain_c _ hc) u k hk
    · rw [uG_s, uG_s, mapN_lt hj, mapN_lt hj]
      exact (S.1 j hj).rain
/-- a vote -/
theorem v1Z_3 (d : Bool) (q : Nat) (m : Zs) : ∀ q' k, k < 4 → (v1Z d q m).1 (gm d 3) q' k = m.1 (gm d 3) q' k := by
  intro q' k hk
  unfold v1Z
  by_cases e : q' = q
  · subst e
    rw [uI_s, u1_n _ _ (by omega)]
  · rw [uI_eq, uR_n _ _ (fun x => e x.2)]
theorem v2Z_3 (d : Bool) (q : Nat) (m : Zs) : ∀ q' k, k < 4 → (v2Z d q m).1 (gm d 3) q' k = m.1 (gm d 3) q' k := by
  intro q' k hk
  unfold v2Z
  by_cases e : q' = q
  · subst e
    rw [uR_s, u1_n _ _ (by omega), u1_n _ _ (by omega)]
  · rw [uR_n _ _ (fun x => e x.2)]
theorem v1Z_o (d : Bool) (q : Nat) (m : Zs) {g : Nat} (h : ¬ g = gm d 3) : (v1Z d q m).1 g = m.1 g := uG_n _ _ h
theorem v2Z_o (d : Bool) (q : Nat) (m : Zs) {g : Nat} (h : ¬ g = gm d 3) : (v2Z d q m).1 g = m.1 g := uG_n _ _ h
theorem Sim.v1 {n : Nat} {c m : Zs} {b d : Bool} (S : Sim n c b m d) (q : Nat) : Sim n c b (v1Z d q m) d :=
  S.mk' (SK.rfl' c) (fun u k _ => by rw [v1Z_o d q m (gm_ne d (by decide) (by decide) (by decide))]) (v1Z_o d q m (gm_ne d (by decide) (by decide) (by decide))) (v1Z_3 d q m) (fun j hj => by rw [v1Z_o d q m (gm_ne d (by decide) (by decide) (by decide))]; exact S.1 j hj)
theorem Sim.v2 {n : Nat} {c m : Zs} {b d : Bool} (S : Sim n c b m d) (q : Nat) : Sim n c b (v2Z d q m) d :=
  S.mk' (SK.rfl' c) (fun u k _ => by rw [v2Z_o d q m (gm_ne d (by decide) (by decide) (by decide))]) (v2Z_o d q m (gm_ne d (by decide) (by decide) (by decide))) (v2Z_3 d q m) (fun j hj => by rw [v2Z_o d q m (gm_ne d (by decide) (by decide) (by decide))]; exact S.1 j hj)
theorem Sim.vWe {n : Nat} {c m : Zs} {b d : Bool} (S : Sim n c b m d) (H : HB c b n) {q : Nat} (hq : q < c.2.1 1) : vW d n q m = kCarr c b q n := ((S.v1 q).carr H hq).symm
theorem Sim.vote {n : Nat} {c m : Zs} {b d : Bool} (S : Sim n c b m d) (H : HB c b n) {q : Nat} (hq : q < c.2.1 1) (rec : Int32) : Sim n (vE b n rec q c) b (voZ d n q m) d := by
  have key : Sim n (if kCarr c b q n = 0 then c else uG c (gv b) (mapN n (fF c b q) (c.1 (gv b)))) b (voZ d n q m) d := by
    unfold voZ
    rw [S.vWe H hq]
    by_cases e : kCarr c b q n = 0
    · rw [if_pos e, if_pos e]
      exact S.v1 q
    · rw [if_neg e, if_neg e]
      have S2 := S.v2 q
      refine S2.mk' (SK.uv _ _ _) (fun u k hk => ?_) (uG_n _ _ (gm_ne d (by decide) (by decide) (by decide))) (fun q' k _ => by unfold efZ; rw [uG_n _ _ (gm_ne d (by decide) (by decide) (by decide))]) (fun j hj => ?_)
      · unfold efZ
        rw [uG_s]
        exact mapN_c (n := n) (fun j c hc => mEf_c _ _ _ hc) u k hk
      · unfold efZ
        rw [uG_s, uG_s, mapN_lt hj, mapN_lt hj]
        unfold fF gF
        rw [S2.side H hj hq, S2.2.2.2.2.1 q 3 hq (by decide)]
        exact (S2.1 j hj).eff (H.2.2.2.2 j hj) _ _
  unfold vE
  by_cases hr : rec = 0
  · simp only [if_pos hr]
    exact key
  · simp only [if_neg hr]
    refine key.mk' (SK.um _ _ _) (fun _ _ _ => rfl) rfl (fun _ _ _ => rfl) (fun j hj => ?_)
    rw [uR_n _ _ (fun x => by cases b <;> exact absurd x.1 (by decide))]
    exact key.1 j hj
