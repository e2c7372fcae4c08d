/-! ===== rows over pure heaps: memory ===== -/
def FG (own : String) (index ci k : Nat) : Prop := ∃ (C : String) (T : u_T) (N : Nat) (ref : String), vwCl[ci]? = some (C, T, N) ∧ k < N ∧ (∀ w ∈ u_ws C T N, w ∈ W0) ∧
  (Cond.fieldLink own index ref (T k).2.1 (T k).2.2.1 ∈ W0 ∨ ∃ host, Cond.fieldLinkNest own index ref (T k).2.1 (T k).2.2.1 host ∈ NW) ∧ (ref = (T k).1 ∨ Cond.sameField ref (T k).1 (T k).2.1 (T k).2.2.1 ∈ W0)
def FP (own nm : String) (index ci k : Nat) (ty : FieldType) : Prop := ∃ (C : String) (T : u_T) (N : Nat) (ref : String) (ty0 : Nat → FieldType), vwCl[ci]? = some (C, T, N) ∧ k < N ∧ (∀ w ∈ u_ws C T N, w ∈ W0) ∧
  (∀ k, k < N → parseFieldDescriptor (T k).2.2.1 = some (ty0 k)) ∧ (∀ a, a < N → ∀ b, b < N → a ≠ b → (T a).2.1 ≠ (T b).2.1) ∧ parseFieldDescriptor (T k).2.2.1 = some ty ∧ (ref = (T k).1 ∨ Cond.sameField ref (T k).1 (T k).2.1 (T k).2.2.1 ∈ W0) ∧
  (((T k).2.2.2 = false ∧ Cond.fieldLink own index ref (T k).2.1 (T k).2.2.1 ∈ W0) ∨ ((T k).2.2.2 = false ∧ ∃ host, Cond.fieldLinkNest own index ref (T k).2.1 (T k).2.2.1 host ∈ NW) ∨ ((T k).2.2.2 = true ∧ nm = "<init>" ∧ (T k).1 = own ∧ Cond.fieldLink own index ref (T k).2.1 (T k).2.2.1 ∈ W0))
theorem oGet_spec {ci : Nat} {h : PH} {q k : Nat} {v : Value} (e : oGet ci h q k = some v) : ∃ fs, h.2 q = some (.inr (ci, fs)) ∧ fs[k]? = some v := by
  unfold oGet at e
  split at e
  · rename_i c fs hq
    split at e
    · rename_i hc
      subst hc
      exact ⟨fs, hq, e⟩
    · cases e
  · cases e
theorem gI_spec {ci : Nat} {h : PH} {q k : Nat} {x : Int32} (e : gI ci h q k = some x) : oGet ci h q k = some (.int x) := by
  unfold gI at e
  split at e
  · cases e; assumption
  · cases e
theorem gR_spec {ci : Nat} {h : PH} {q k : Nat} {x : Nat} (e : gR ci h q k = some x) : oGet ci h q k = some (.ref x) := by
  unfold gR at e
  split at e
  · cases e; assumption
  · cases e
theorem sF_spec {ci : Nat} {h h' : PH} {q k : Nat} {v : Value} (e : sF ci h q k v = some h') : ∃ fs, h.2 q = some (.inr (ci, fs)) ∧ k < fs.length ∧ h' = (h.1, va_up h.2 q (some (.inr (ci, fs.set k v)))) := by
  unfold sF at e
  split at e
  · rename_i c fs hq
    split at e
    · rename_i hc
      obtain ⟨rfl, hl⟩ := hc
      exact ⟨fs, hq, hl, (Option.some.inj e).symm⟩
    · cases e
  · cases e
theorem isC_spec {ci : Nat} {h : PH} {q : Nat} {u : Unit} (e : isC ci h q = some u) : ∃ fs, h.2 q = some (.inr (ci, fs)) := by
  unfold isC at e
  split at e
  · rename_i c fs hq
    split at e
    · rename_i hc
      subst hc
      exact ⟨fs, hq⟩
    · cases e
  · cases e
theorem isO_spec {h : PH} {q : Nat} {u : Unit} (e : isO h q = some u) : ∃ ci fs, h.2 q = some (.inr (ci, fs)) ∧ ci < 10 := by
  unfold isO at e
  split at e
  · rename_i c fs hq
    split at e
    · rename_i hc
      exact ⟨c, fs, hq, hc⟩
    · cases e
  · cases e
theorem aI_spec {h : PH} {q : Nat} {i x : Int32} (e : aI h q i = some x) : ∃ n f, h.2 q = some (.inl (0, n, .inl f)) ∧ vp_in i n ∧ x = f i.toNatClampNeg := by
  unfold aI at e
  split at e
  · rename_i k n f hq
    split at e
    · rename_i hc
      obtain ⟨rfl, hl⟩ := hc
      exact ⟨n, f, hq, hl, (Option.some.inj e).symm⟩
    · cases e
  · cases e
theorem aIs_spec {h h' : PH} {q : Nat} {i x : Int32} (e : aIs h q i x = some h') : ∃ n f, h.2 q = some (.inl (0, n, .inl f)) ∧ vp_in i n ∧ h' = (h.1, va_up h.2 q (some (.inl (0, n, .inl (upd f i.toNatClampNeg x))))) := by
  unfold aIs at e
  split at e
  · rename_i k n f hq
    split at e
    · rename_i hc
      obtain ⟨rfl, hl⟩ := hc
      exact ⟨n, f, hq, hl, (Option.some.inj e).symm⟩
    · cases e
  · cases e
theorem aZ_spec {h : PH} {q : Nat} {i x : Int32} (e : aZ h q i = some x) : ∃ n f, h.2 q = some (.inl (2, n, .inl f)) ∧ vp_in i n ∧ x = f i.toNatClampNeg := by
  unfold aZ at e
  split at e
  · rename_i k n f hq
    split at e
    · rename_i hc
      obtain ⟨rfl, hl⟩ := hc
      exact ⟨n, f, hq, hl, (Option.some.inj e).symm⟩
    · cases e
  · cases e
theorem aZs_spec {h h' : PH} {q : Nat} {i x : Int32} (e : aZs h q i x = some h') : ∃ n f, h.2 q = some (.inl (2, n, .inl f)) ∧ (x = 0 ∨ x = 1) ∧ vp_in i n ∧ h' = (h.1, va_up h.2 q (some (.inl (2, n, .inl (upd f i.toNatClampNeg x))))) := by
  unfold aZs at e
  split at e
  · rename_i k n f hq
    split at e
    · rename_i hc
      obtain ⟨rfl, hx, hl⟩ := hc
      exact ⟨n, f, hq, hx, hl, (Option.some.inj e).symm⟩
    · cases e
  · cases e
theorem aJ_spec {h : PH} {q : Nat} {i : Int32} {x : Int64} (e : aJ h q i = some x) : ∃ n f, h.2 q = some (.inl (3, n, .inr (.inl f))) ∧ vp_in i n ∧ x = f i.toNatClampNeg := by
  unfold aJ at e
  split at e
  · rename_i k n f hq
    split at e
    · rename_i hc
      obtain ⟨rfl, hl⟩ := hc
      exact ⟨n, f, hq, hl, (Option.some.inj e).symm⟩
    · cases e
  · cases e
theorem aJs_spec {h h' : PH} {q : Nat} {i : Int32} {x : Int64} (e : aJs h q i x = some h') : ∃ n f, h.2 q = some (.inl (3, n, .inr (.inl f))) ∧ vp_in i n ∧ h' = (h.1, va_up h.2 q (some (.inl (3, n, .inr (.inl (vp_updL f i.toNatClampNeg x)))))) := by
  unfold aJs at e
  split at e
  · rename_i k n f hq
    split at e
    · rename_i hc
      obtain ⟨rfl, hl⟩ := hc
      exact ⟨n, f, hq, hl, (Option.some.inj e).symm⟩
    · cases e
  · cases e
theorem aR_spec {h : PH} {q : Nat} {i : Int32} {x : Nat} (e : aR h q i = some x) : ∃ n f, h.2 q = some (.inl (1, n, .inr (.inr (.inr (.inr f))))) ∧ vp_in i n ∧ f i.toNatClampNeg = some x := by
  unfold aR at e
  split at e
  · rename_i k n f hq
    split at e
    · rename_i hc
      obtain ⟨rfl, hl⟩ := hc
      exact ⟨n, f, hq, hl, e⟩
    · cases e
  · cases e
theorem aRs_spec {h h' : PH} {q : Nat} {i : Int32} {r : Option Nat} (e : aRs h q i r = some h') : ∃ n f, h.2 q = some (.inl (1, n, .inr (.inr (.inr (.inr f))))) ∧ vp_in i n ∧ h' = (h.1, va_up h.2 q (some (.inl (1, n, .inr (.inr (.inr (.inr (va_up f i.toNatClampNeg r)))))))) := by
  unfold aRs at e
  split at e
  · rename_i k n f hq
    split at e
    · rename_i hc
      obtain ⟨rfl, hl⟩ := hc
      exact ⟨n, f, hq, hl, (Option.some.inj e).symm⟩
    · cases e
  · cases e
section PRW
variable {G : GE} {p : Program} {l : Launch} {e : Env} {R : Room} {s : State} {m : MethodId} {args : Array Value} {below : List Frame} {meth : Method} {c : Code} {H : Heap} {locs : List Loc} {cells slots : Nat} {Q : State → Prop}
variable {cc : ByteArray} {nL : Nat} {own nm : String} {ret : Option FieldType} {pc : Nat} {ls : Array Slot} {rest : List Value} {h : PH} {β : Type} {Rr : β}
theorem Hx.set {c0 c2 : PC} {q k : Nat} {H1 : Heap} (hH : Hx G s h H locs) (hc : h.2 q = some c0) (h1 : va_P (gD G) vwCl [(q, toE G c2)] H1) (hz : H1.size = H.size) (oq : ∀ x : Nat, x ≠ q → H1[x]? = H[x]?) : Hx G s (h.1, va_up h.2 q (some c2)) H1 (locs ++ [⟨q, k⟩]) :=
  ⟨hH.1.set hc h1 hz oq, by rw [hz]; exact hH.2.1, t_lc hH.2.2 (hH.1.2.2.2 q c0 hc).2⟩
theorem Hx.new {c2 : PC} {H1 : Heap} (hH : Hx G s h H locs) (h1 : va_P (gD G) vwCl [(H.size, toE G c2)] H1) (hz : H1.size = H.size + 1) (oq : ∀ x : Nat, x < H.size → H1[x]? = H[x]?) : Hx G s (h.1 + 1, va_up h.2 h.1 (some c2)) H1 locs :=
  ⟨hH.1.new h1 hz oq, by rw [hz]; exact Nat.le_succ_of_le hH.2.1, hH.2.2⟩
theorem p_get (X : Cx G p s m args meth c cc nL own nm ret) (hH : Hx G s h H locs) {index ci k : Nat} (hF : FG own index ci k) {q : Nat} {v : Value} (hv : oGet ci h q k = some v) (hdg : decode cc pc = .ok (.getfield index, 3))
    (kk : W p l e R s m args below meth c H locs cells slots Q (F0 m (pc + 3) ls (v :: rest))) : W p l e R s m args below meth c H locs cells slots Q (F0 m pc ls (.ref q :: rest)) := by
  obtain ⟨C, T, N, ref, hc, hk, hin, hlink, hsame⟩ := hF
  obtain ⟨hx, hb, -, hown, hts, hE, -⟩ := X
  obtain ⟨fs, hq, hfs⟩ := oGet_spec hv
  have hsm : ∀ x, s.fieldFound? (T k).1 (T k).2.1 (T k).2.2.1 = some x → s.fieldFound? ref (T k).2.1 (T k).2.2.1 = some x := by
    rcases hsame with hs | hs
    · rw [hs]; exact fun _ h => h
    · exact u_same (hts _ hs)
  have hP := hH.1.P1 hq
  rcases hlink with hl | ⟨host, hl⟩
  · exact va_get (cl := vwCl) (Ts := W0) hx hb hts hin hown hE.1 hP 0 (fs := fs) rfl hc k hk (hts _ hl) hsm hfs hdg kk
  · exact va_getN (cl := vwCl) (Ts := W0) hx hb hts hin hown hE.1 hP 0 (fs := fs) rfl hc k hk (va_Nw.use rfl (hE.2.2.2.1 _ hl)) hsm hfs hdg kk
theorem p_getI (X : Cx G p s m args meth c cc nL own nm ret) (hH : Hx G s h H locs) {index ci k : Nat} (hF : FG own index ci k) {q : Nat} {F : Int32 → Option β} (hf : rd (gI ci h q k) F = some Rr) (hdg : decode cc pc = .ok (.getfield index, 3))
    (kk : ∀ v, gI ci h q k = some v → F v = some Rr → W p l e R s m args below meth c H locs cells slots Q (F0 m (pc + 3) ls (.int v :: rest))) : W p l e R s m args below meth c H locs cells slots Q (F0 m pc ls (.ref q :: rest)) := by
  obtain ⟨v, h1, h2⟩ := rd_some hf
  exact p_get X hH hF (gI_spec h1) hdg (kk v h1 h2)
theorem p_getR (X : Cx G p s m args meth c cc nL own nm ret) (hH : Hx G s h H locs) {index ci k : Nat} (hF : FG own index ci k) {q : Nat} {F : Nat → Option β} (hf : rd (gR ci h q k) F = some Rr) (hdg : decode cc pc = .ok (.getfield index, 3))
    (kk : ∀ v, gR ci h q k = some v → F v = some Rr → W p l e R s m args below meth c H locs cells slots Q (F0 m (pc + 3) ls (.ref v :: rest))) : W p l e R s m args below meth c H locs cells slots Q (F0 m pc ls (.ref q :: rest)) := by
  obtain ⟨v, h1, h2⟩ := rd_some hf
  exact p_get X hH hF (gR_spec h1) hdg (kk v h1 h2)
theorem p_put (X : Cx G p s m args meth c cc nL own nm ret) (hH : Hx G s h H locs) {index ci k : Nat} {ty : FieldType} (hF : FP own nm index ci k ty) {q : Nat} {v : Value} (hn : narrow ty v = v) (hfit : fits ty v = true) {F : PH → Option β} (hf : rd (sF ci h q k v) F = some Rr) (hdg : decode cc pc = .ok (.putfield index, 3))
    (kk : ∀ (h' : PH) (H' : Heap) (locs' : List Loc), Hx G s h' H' locs' → F h' = some Rr → W p l e R s m args below meth c H' locs' cells slots Q (F0 m (pc + 3) ls rest)) : W p l e R s m args below meth c H locs cells slots Q (F0 m pc ls (v :: .ref q :: rest)) := by
  obtain ⟨h', h1, h2⟩ := rd_some hf
  obtain ⟨fs, hq, hl, rfl⟩ := sF_spec h1
  obtain ⟨C, T, N, ref, ty0, hc, hk, hin, hty, hnm, hd, hsame, hlink⟩ := hF
  obtain ⟨hx, hb, -, hown, hts, hE, -, hmn, -⟩ := X
  have hsm : ∀ x, s.fieldFound? (T k).1 (T k).2.1 (T k).2.2.1 = some x → s.fieldFound? ref (T k).2.1 (T k).2.2.1 = some x := by
    rcases hsame with hs | hs
    · rw [hs]; exact fun _ h => h
    · exact u_same (hts _ hs)
  have hP := hH.1.P1 hq
  have hK := hE.1
  have hap := va_apart (own := own) hts hin ty0 hty hnm hK hc
  obtain ⟨r, h1', cell, q1, q2, q3, q4⟩ := hP 0 _ rfl
  have hr : r = (C, T, N) := Option.some.inj (h1'.symm.trans hc)
  subst hr
  obtain ⟨hS, hfc, kC, hkC, hkind⟩ := hK.1 ci _ hc
  obtain ⟨cf, kf, fi, f, hi, hsl⟩ := hS k hk
  have hlay := hts _ (hin _ (u_in_lay hk))
  unfold u_lay at hlay
  have hst := (u_facts hfc hkC (u_lays hts hin hk) hi).1
  have fin : ∀ H' : Heap, H'[q]? = some (cell.setSlot f.slot v) → H'.size = H.size → (∀ x, x ≠ q → H'[x]? = H[x]?) → Hx G s (h.1, va_up h.2 q (some (.inr (ci, fs.set k v)))) H' (locs ++ [⟨q, f.slot⟩]) := fun H' e1 e2 e3 => by
    rw [hsl] at e1
    refine hH.set hq (fun j x hj => ?_) e2 e3
    have hz : j < 1 := (List.getElem?_eq_some_iff.mp hj).1
    rw [show j = 0 by omega] at hj
    cases hj
    exact ⟨_, hc, t_OB.to (V := updV (vp_V fs) k v) ⟨_, e1, q2, q3, t_set q4 hap hk v⟩ (fun j _ => vp_updV_set hl v j)⟩
  rcases hlink with ⟨hfin, hl2⟩ | ⟨hfin, host, hl2⟩ | ⟨hfin, hnm2, hdecl, hl2⟩
  · rw [if_neg (by rw [hfin]; decide)] at hlay
    have h6 := u_store hfc hkC hkind hlay hi hd hn hfit
    exact W.putK hx hb (f := f) ⟨hown, hts _ hl2, ⟨_, _, _, hsm _ hi⟩, hst⟩ (by rw [q2]; exact h6) q1 q3 (by rw [hsl]; exact k2_hasslot (q4 k hk)) rfl rfl hdg fun H' e1 e2 e3 => kk _ _ _ (fin H' e1 e2 e3) h2
  · rw [if_neg (by rw [hfin]; decide)] at hlay
    have h6 := u_store hfc hkC hkind hlay hi hd hn hfit
    exact va_WputK hx hb (f := f) hown (va_Nw.use rfl (hE.2.2.2.1 _ hl2)) (hsm _ hi) hst (by rw [q2]; exact h6) q1 q3 (by rw [hsl]; exact k2_hasslot (q4 k hk)) rfl rfl hdg fun H' e1 e2 e3 => kk _ _ _ (fin H' e1 e2 e3) h2
  · rw [if_pos hfin] at hlay
    have hcf : m.cls = cf := by
      obtain ⟨_, _, c', _, _, _, -, -, hf', -, -, -, hown2, -⟩ := Cond.laysFinal_spec hlay
      have e1 : c' = cf := by have := hi.symm.trans hf'; simp at this; exact this.1.symm
      rw [hdecl] at hown2
      rw [← e1]; exact Option.some.inj (hown.symm.trans hown2)
    have h6 := u_fits hfc hkC hkind (Or.inr hlay) hi hd hn hfit
    exact W.putFinK hx hb hown (hts _ hl2) (hsm _ hi) hst hcf (hmn.trans hnm2) (by rw [q2]; exact h6) q1 q3 (by rw [hsl]; exact k2_hasslot (q4 k hk)) rfl rfl hdg fun H' e1 e2 e3 => kk _ _ _ (fin H' e1 e2 e3) h2
/-! arrays -/
theorem hK0 {G : GE} {s : State} (hE : EvG G s) : va_K (gD G) vwCl (tysL G) s := hE.1
theorem p_iald (X : Cx G p s m args meth c cc nL own nm ret) (hH : Hx G s h H locs) {q : Nat} {i : Int32} {F : Int32 → Option β} (hf : rd (aI h q i) F = some Rr) (hdg : decode cc pc = .ok (.iaload, 1))
    (kk : ∀ v, aI h q i = some v → F v = some Rr → W p l e R s m args below meth c H locs cells slots Q (F0 m (pc + 1) ls (.int v :: rest))) : W p l e R s m args below meth c H locs cells slots Q (F0 m pc ls (.int i :: .ref q :: rest)) := by
  obtain ⟨v, h1, h2⟩ := rd_some hf
  obtain ⟨n, f, hq, hin, hv⟩ := aI_spec h1
  obtain ⟨hx, hb, -, -, -, hE, -⟩ := X
  exact va_iald hx hb hE.1 (hH.1.P1 hq) 0 0 rfl rfl hin hdg (by rw [← hv]; exact kk v h1 h2)
theorem p_zald (X : Cx G p s m args meth c cc nL own nm ret) (hH : Hx G s h H locs) {q : Nat} {i : Int32} {F : Int32 → Option β} (hf : rd (aZ h q i) F = some Rr) (hdg : decode cc pc = .ok (.baload, 1))
    (kk : ∀ v, aZ h q i = some v → F v = some Rr → W p l e R s m args below meth c H locs cells slots Q (F0 m (pc + 1) ls (.int v :: rest))) : W p l e R s m args below meth c H locs cells slots Q (F0 m pc ls (.int i :: .ref q :: rest)) := by
  obtain ⟨v, h1, h2⟩ := rd_some hf
  obtain ⟨n, f, hq, hin, hv⟩ := aZ_spec h1
  obtain ⟨hx, hb, -, -, -, hE, -⟩ := X
  exact va_zald hx hb hE.1 (hH.1.P1 hq) 0 2 rfl rfl hin hdg (by rw [← hv]; exact kk v h1 h2)
theorem p_lald (X : Cx G p s m args meth c cc nL own nm ret) (hH : Hx G s h H locs) {q : Nat} {i : Int32} {F : Int64 → Option β} (hf : rd (aJ h q i) F = some Rr) (hdg : decode cc pc = .ok (.laload, 1))
    (kk : ∀ v, aJ h q i = some v → F v = some Rr → W p l e R s m args below meth c H locs cells slots Q (F0 m (pc + 1) ls (.long v :: rest))) : W p l e R s m args below meth c H locs cells slots Q (F0 m pc ls (.int i :: .ref q :: rest)) := by
  obtain ⟨v, h1, h2⟩ := rd_some hf
  obtain ⟨n, f, hq, hin, hv⟩ := aJ_spec h1
  obtain ⟨hx, hb, -, -, -, hE, -⟩ := X
  exact va_lald hx hb hE.1 (hH.1.P1 hq) 0 3 rfl rfl hin hdg (by rw [← hv]; exact kk v h1 h2)
theorem p_aald (X : Cx G p s m args meth c cc nL own nm ret) (hH : Hx G s h H locs) {q : Nat} {i : Int32} {F : Nat → Option β} (hf : rd (aR h q i) F = some Rr) (hdg : decode cc pc = .ok (.aaload, 1))
    (kk : ∀ v, aR h q i = some v → F v = some Rr → W p l e R s m args below meth c H locs cells slots Q (F0 m (pc + 1) ls (.ref v :: rest))) : W p l e R s m args below meth c H locs cells slots Q (F0 m pc ls (.int i :: .ref q :: rest)) := by
  obtain ⟨v, h1, h2⟩ := rd_some hf
  obtain ⟨n, f, hq, hin, hv⟩ := aR_spec h1
  obtain ⟨hx, hb, -, -, -, hE, -⟩ := X
  exact va_aldq hx hb hE.1 (hH.1.P1 hq) 0 1 rfl rfl hin hdg (by rw [hv]; exact kk v h1 h2)
theorem p_iast (X : Cx G p s m args meth c cc nL own nm ret) (hH : Hx G s h H locs) {q : Nat} {i x : Int32} {F : PH → Option β} (hf : rd (aIs h q i x) F = some Rr) (hdg : decode cc pc = .ok (.iastore, 1))
    (kk : ∀ (h' : PH) (H' : Heap) (locs' : List Loc), Hx G s h' H' locs' → F h' = some Rr → W p l e R s m args below meth c H' locs' cells slots Q (F0 m (pc + 1) ls rest)) : W p l e R s m args below meth c H locs cells slots Q (F0 m pc ls (.int x :: .int i :: .ref q :: rest)) := by
  obtain ⟨h', h1, h2⟩ := rd_some hf
  obtain ⟨n, f, hq, hin, rfl⟩ := aIs_spec h1
  obtain ⟨hx, hb, -, -, -, hE, -⟩ := X
  have hP := hH.1.P1 hq
  refine W.iast hx hb (hP 0 _ rfl) ((hE.1.2 0 _ rfl).1 n (fun j => .int (f j))) (fun q => by cases q) (by show ¬ (i < 0 ∨ (arrV _ _ _).slots.size ≤ _); rw [arrV_size]; exact hin) rfl rfl hdg fun H1 e1 z oq => kk _ H1 _ (hH.set hq (fun j y hj => ?_) z oq) h2
  have hz : j < 1 := (List.getElem?_eq_some_iff.mp hj).1
  rw [show j = 0 by omega] at hj
  cases hj
  show H1[q]? = some (vp_cell _ _)
  rw [e1]
  rw [vp_cell_i, vp_cell_i, arrV_store]
  congr 2
  funext y
  by_cases hy : y = i.toNatClampNeg
  · subst hy
    simp [updV, upd]
  · simp [updV, upd, hy]
theorem p_zast (X : Cx G p s m args meth c cc nL own nm ret) (hH : Hx G s h H locs) {q : Nat} {i x : Int32} {F : PH → Option β} (hf : rd (aZs h q i x) F = some Rr) (hdg : decode cc pc = .ok (.bastore, 1))
    (kk : ∀ (h' : PH) (H' : Heap) (locs' : List Loc), Hx G s h' H' locs' → F h' = some Rr → W p l e R s m args below meth c H' locs' cells slots Q (F0 m (pc + 1) ls rest)) : W p l e R s m args below meth c H locs cells slots Q (F0 m pc ls (.int x :: .int i :: .ref q :: rest)) := by
  obtain ⟨h', h1, h2⟩ := rd_some hf
  obtain ⟨n, f, hq, hx01, hin, rfl⟩ := aZs_spec h1
  obtain ⟨hx, hb, -, -, -, hE, -⟩ := X
  have hP := hH.1.P1 hq
  have hnar : narrow .boolean (.int x) = .int x := by rcases hx01 with rfl | rfl <;> rfl
  refine W.zast hx hb (hP 0 _ rfl) ((hE.1.2 2 _ rfl).1 n (fun j => .int (f j))) (fun q => by cases q) (by show ¬ (i < 0 ∨ (arrV _ _ _).slots.size ≤ _); rw [arrV_size]; exact hin) rfl rfl hdg fun H1 e1 z oq => kk _ H1 _ (hH.set hq (fun j y hj => ?_) z oq) h2
  have hz : j < 1 := (List.getElem?_eq_some_iff.mp hj).1
  rw [show j = 0 by omega] at hj
  cases hj
  show H1[q]? = some (vp_cell _ _)
  rw [e1]
  rw [vp_cell_i, vp_cell_i, arrV_store]
  congr 2
  funext y
  by_cases hy : y = i.toNatClampNeg
  · subst hy
    simp [updV, upd, hnar]
  · simp [updV, upd, hy]
theorem p_last (X : Cx G p s m args meth c cc nL own nm ret) (hH : Hx G s h H locs) {q : Nat} {i : Int32} {x : Int64} {F : PH → Option β} (hf : rd (aJs h q i x) F = some Rr) (hdg : decode cc pc = .ok (.lastore, 1))
    (kk : ∀ (h' : PH) (H' : Heap) (locs' : List Loc), Hx G s h' H' locs' → F h' = some Rr → W p l e R s m args below meth c H' locs' cells slots Q (F0 m (pc + 1) ls rest)) : W p l e R s m args below meth c H locs cells slots Q (F0 m pc ls (.long x :: .int i :: .ref q :: rest)) := by
  obtain ⟨h', h1, h2⟩ := rd_some hf
  obtain ⟨n, f, hq, hin, rfl⟩ := aJs_spec h1
  obtain ⟨hx, hb, -, -, -, hE, -⟩ := X
  have hP := hH.1.P1 hq
  refine W.last hx hb (hP 0 _ rfl) ((hE.1.2 3 _ rfl).1 n (fun j => .long (f j))) (fun q => by cases q) (by show ¬ (i < 0 ∨ (arrV _ _ _).slots.size ≤ _); rw [arrV_size]; exact hin) rfl rfl hdg fun H1 e1 z oq => kk _ H1 _ (hH.set hq (fun j y hj => ?_) z oq) h2
  have hz : j < 1 := (List.getElem?_eq_some_iff.mp hj).1
  rw [show j = 0 by omega] at hj
  cases hj
  show H1[q]? = some (vp_cell _ _)
  rw [e1]
  rw [vp_cell_l, vp_cell_l, arrV_store]
  congr 2
  funext y
  by_cases hy : y = i.toNatClampNeg
  · subst hy
    simp [updV, vp_updL]
  · simp [updV, vp_updL, hy]
end PRW
