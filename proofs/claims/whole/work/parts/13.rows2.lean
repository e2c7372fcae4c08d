/-! ===== rows over pure heaps: lengths, new cells, casts, statics ===== -/
def FN (own : String) (index ci N : Nat) (fs : List Value) : Prop := ∃ (C : String) (T : u_T) (ty : Nat → FieldType), vwCl[ci]? = some (C, T, N) ∧ (∀ w ∈ u_ws C T N, w ∈ W0) ∧ (∀ k, k < N → parseFieldDescriptor (T k).2.2.1 = some (ty k)) ∧
  Cond.classLink own index C ∈ W0 ∧ Cond.instantiable C N ∈ W0 ∧ Cond.initialized C ∈ W0 ∧ ∀ j, j < N → defaultValue (ty j) = vp_V fs j
section PRX
variable {G : GE} {p : Program} {l : Launch} {e : Env} {R : Room} {s : State} {m : MethodId} {args : Array Value} {below : List Frame} {meth : Method} {c : Code} {H : Heap} {locs : List Loc} {cells slots : Nat} {Q : State → Prop}
variable {cc : ByteArray} {nL : Nat} {own nm : String} {ret : Option FieldType} {pc : Nat} {ls : Array Slot} {rest : List Value} {h : PH} {β : Type} {Rr : β}
theorem hS0 (X : Cx G p s m args meth c cc nL own nm ret) : ∀ a : Nat, a < (gH G).size → ¬ gA G a → s.heap[a]? = (gH G)[a]? := fun a _ h => X.2.2.2.2.2.2.2.2.2.2 a (Nat.lt_of_not_le h)
theorem vp_arr (cA : ClassId) (a : vp_A) : ∃ f : Nat → Value, vp_cell cA a = arrV cA a.1 f := by
  obtain ⟨n, f | f | f | f | f⟩ := a
  · exact ⟨_, vp_cell_i cA n f⟩
  · exact ⟨_, vp_cell_l cA n f⟩
  · exact ⟨_, vp_cell_f cA n f⟩
  · exact ⟨_, vp_cell_d cA n f⟩
  · exact ⟨_, vp_cell_q cA n f⟩
theorem tys_at (G : GE) {k : Nat} (hk : k < 4) : ∃ ty, (tysL G)[k]? = some (gT G k, ty) := by
  rcases (show k = 0 ∨ k = 1 ∨ k = 2 ∨ k = 3 by omega) with rfl | rfl | rfl | rfl <;> exact ⟨_, rfl⟩
theorem p_alen (X : Cx G p s m args meth c cc nL own nm ret) (hH : Hx G s h H locs) {q : Nat} {F : Int32 → Option β} (hf : rd (aLen G h q) F = some Rr) (hdg : decode cc pc = .ok (.arraylength, 1))
    (kk : ∀ v, aLen G h q = some v → F v = some Rr → W p l e R s m args below meth c H locs cells slots Q (F0 m (pc + 1) ls (.int v :: rest))) : W p l e R s m args below meth c H locs cells slots Q (F0 m pc ls (.ref q :: rest)) := by
  obtain ⟨v, h1, h2⟩ := rd_some hf
  have kk := kk v h1 h2
  have hS := Hx.S X hH
  obtain ⟨hx, hb, -, -, -, hE, -⟩ := id X
  unfold aLen at h1
  split at h1
  · rename_i hq
    subst hq
    cases h1
    exact va_tlen hx hb ((hE.2.2.1.2.2).kept (hS0 X)) hS rfl hdg kk
  · split at h1
    · rename_i k n a hc
      split at h1
      · rename_i hk
        cases h1
        have hcell : H[q]? = some (vp_cell (gT G k) (n, a)) := hH.1.P1 hc 0 _ rfl
        obtain ⟨f, hv⟩ := vp_arr (gT G k) (n, a)
        obtain ⟨ty, ht⟩ := tys_at G hk
        rw [hv] at hcell
        exact W.alen hx hb hcell ((hE.1.2 k _ ht).1 n f) (n := nI n) (by rw [arrV_size]; rfl) rfl rfl hdg kk
      · cases h1
    · cases h1
theorem p_new (X : Cx G p s m args meth c cc nL own nm ret) (hH : Hx G s h H locs) {index ci N : Nat} {fs : List Value} (hN : FN own index ci N fs) (hcells : cells + 1 ≤ R.cells) (hslots : slots + N ≤ R.slots) {F : Nat → PH → Option β} (hf : nw h (.inr (ci, fs)) F = some Rr) (hdg : decode cc pc = .ok (.new index, 3))
    (kk : ∀ (q : Nat) (h' : PH) (H' : Heap), Hx G s h' H' locs → F q h' = some Rr → W p l e R s m args below meth c H' locs (cells + 1) (slots + N) Q (F0 m (pc + 3) ls (.ref q :: rest))) : W p l e R s m args below meth c H locs cells slots Q (F0 m pc ls rest) := by
  obtain ⟨C, T, ty, hc, hin, hty, hcl, hinst, hini, hfs⟩ := hN
  obtain ⟨hx, hb, -, hown, hts, hE, -⟩ := id X
  have hKn := hE.1.1 ci _ hc
  refine W.newcK hx hb hown (hts _ hcl) (hts _ hinst) (hts _ hini) rfl hdg hcells hslots hKn.2.1 rfl fun H1 kC hkC e1 z1 o1 => ?_
  have hp : va_P (gD G) vwCl [(H.size, toE G (.inr (ci, fs)))] H1 := fun j x hj => by
    have hz : j < 1 := (List.getElem?_eq_some_iff.mp hj).1
    rw [show j = 0 by omega] at hj
    cases hj
    exact ⟨_, hc, (u_born ty hts hin hKn hkC e1 hty).to hfs⟩
  have h3 := kk h.1 _ H1 (hH.new hp z1 o1) hf
  rw [← hH.1.1] at h3
  exact h3
theorem p_newp (X : Cx G p s m args meth c cc nL own nm ret) (hH : Hx G s h H locs) {atype : ArrayType} {k : Nat} (hk : (tysL G)[k]? = some (gT G k, newarray.typeOf atype)) (harr : Cond.arrayClass (newarray.typeOf atype) ∈ W0) {a0 : vp_A} {N : Nat} (ha : ∀ cA : ClassId, vp_cell cA a0 = arrV cA N (fun _ => defaultValue (newarray.typeOf atype)))
    {n : Int32} (hn : ¬ n < 0) (hN : n.toNatClampNeg = N) (hbytes : N * componentBytes (newarray.typeOf atype) ≤ 536870912) (hcells : cells + 1 ≤ R.cells) (hslots : slots + N ≤ R.slots) {F : Nat → PH → Option β} (hf : nw h (.inl (k, a0)) F = some Rr) (hdg : decode cc pc = .ok (.newarray atype, 2))
    (kk : ∀ (q : Nat) (h' : PH) (H' : Heap), Hx G s h' H' locs → F q h' = some Rr → W p l e R s m args below meth c H' locs (cells + 1) (slots + N) Q (F0 m (pc + 2) ls (.ref q :: rest))) : W p l e R s m args below meth c H locs cells slots Q (F0 m pc ls (.int n :: rest)) := by
  obtain ⟨hx, hb, -, hown, hts, hE, -⟩ := id X
  refine va_newaK hx hb (hts _ harr) rfl hdg rfl hn hN hbytes hcells hslots rfl fun H1 cA e1 z1 o1 hAr hNm => ?_
  have hcA : cA = gT G k := by
    have h4 := (hE.1.2 k _ hk).2
    have h5 : s.vm.findClass ("[" ++ (newarray.typeOf atype).toString) = some (gT G k) := by
      cases atype <;> exact h4
    exact Option.some.inj (hNm.symm.trans h5)
  subst hcA
  have hp : va_P (gD G) vwCl [(H.size, toE G (.inl (k, a0)))] H1 := fun j x hj => by
    have hz : j < 1 := (List.getElem?_eq_some_iff.mp hj).1
    rw [show j = 0 by omega] at hj
    cases hj
    show H1[H.size]? = some (vp_cell _ _)
    rw [ha]
    exact e1
  have h3 := kk h.1 _ H1 (hH.new hp z1 o1) hf
  rw [← hH.1.1] at h3
  exact h3
theorem p_newI (X : Cx G p s m args meth c cc nL own nm ret) (hH : Hx G s h H locs) (harr : Cond.arrayClass .int ∈ W0) {N : Nat} {n : Int32} (hn : ¬ n < 0) (hN : n.toNatClampNeg = N) (hbytes : N * 4 ≤ 536870912) (hcells : cells + 1 ≤ R.cells) (hslots : slots + N ≤ R.slots) {F : Nat → PH → Option β} (hf : nw h (cI N) F = some Rr) (hdg : decode cc pc = .ok (.newarray .int, 2))
    (kk : ∀ (q : Nat) (h' : PH) (H' : Heap), Hx G s h' H' locs → F q h' = some Rr → W p l e R s m args below meth c H' locs (cells + 1) (slots + N) Q (F0 m (pc + 2) ls (.ref q :: rest))) : W p l e R s m args below meth c H locs cells slots Q (F0 m pc ls (.int n :: rest)) :=
  p_newp X hH (atype := .int) (k := 0) rfl harr (fun _ => rfl) hn hN hbytes hcells hslots hf hdg kk
theorem p_newZ (X : Cx G p s m args meth c cc nL own nm ret) (hH : Hx G s h H locs) (harr : Cond.arrayClass .boolean ∈ W0) {N : Nat} {n : Int32} (hn : ¬ n < 0) (hN : n.toNatClampNeg = N) (hbytes : N * 1 ≤ 536870912) (hcells : cells + 1 ≤ R.cells) (hslots : slots + N ≤ R.slots) {F : Nat → PH → Option β} (hf : nw h (cZ N) F = some Rr) (hdg : decode cc pc = .ok (.newarray .boolean, 2))
    (kk : ∀ (q : Nat) (h' : PH) (H' : Heap), Hx G s h' H' locs → F q h' = some Rr → W p l e R s m args below meth c H' locs (cells + 1) (slots + N) Q (F0 m (pc + 2) ls (.ref q :: rest))) : W p l e R s m args below meth c H locs cells slots Q (F0 m pc ls (.int n :: rest)) :=
  p_newp X hH (atype := .boolean) (k := 2) rfl harr (fun _ => rfl) hn hN hbytes hcells hslots hf hdg kk
theorem p_newJ (X : Cx G p s m args meth c cc nL own nm ret) (hH : Hx G s h H locs) (harr : Cond.arrayClass .long ∈ W0) {N : Nat} {n : Int32} (hn : ¬ n < 0) (hN : n.toNatClampNeg = N) (hbytes : N * 8 ≤ 536870912) (hcells : cells + 1 ≤ R.cells) (hslots : slots + N ≤ R.slots) {F : Nat → PH → Option β} (hf : nw h (cJ N) F = some Rr) (hdg : decode cc pc = .ok (.newarray .long, 2))
    (kk : ∀ (q : Nat) (h' : PH) (H' : Heap), Hx G s h' H' locs → F q h' = some Rr → W p l e R s m args below meth c H' locs (cells + 1) (slots + N) Q (F0 m (pc + 2) ls (.ref q :: rest))) : W p l e R s m args below meth c H locs cells slots Q (F0 m pc ls (.int n :: rest)) :=
  p_newp X hH (atype := .long) (k := 3) rfl harr (fun _ => rfl) hn hN hbytes hcells hslots hf hdg kk
theorem p_newR (X : Cx G p s m args meth c cc nL own nm ret) (hH : Hx G s h H locs) {index : Nat} (hcl : Cond.classLink own index "java/lang/Object" ∈ W0) {B : Nat} {n : Int32} (hbytes : B * 4 ≤ 536870912) (hcells : cells + 1 ≤ R.cells) (hslots : slots + B ≤ R.slots) {F : Nat → PH → Option β} (hf : nwA h n B cR F = some Rr) (hdg : decode cc pc = .ok (.anewarray index, 3))
    (kk : ∀ (q : Nat) (h' : PH) (H' : Heap), Hx G s h' H' locs → F q h' = some Rr → W p l e R s m args below meth c H' locs (cells + 1) (slots + B) Q (F0 m (pc + 3) ls (.ref q :: rest))) : W p l e R s m args below meth c H locs cells slots Q (F0 m pc ls (.int n :: rest)) := by
  obtain ⟨hx, hb, -, hown, hts, hE, -⟩ := id X
  unfold nwA at hf
  split at hf
  case isFalse => cases hf
  rename_i hc
  obtain ⟨hn, hB⟩ := hc
  refine W.anew hx hb hown (hts _ hcl) (va_AO.use hE.2.2.2.2.2.1.2.1) rfl hdg rfl hn (by omega) hcells (by omega) fun cA kA comp f1 f2 f3 f4 => ?_
  generalize hH1 : H.push ({ cls := cA, slots := Array.replicate n.toNatClampNeg .null, vm := .none } : Cell) = H1
  have z1 : H1.size = H.size + 1 := by rw [← hH1, Array.size_push]
  have e1 : H1[H.size]? = some (arrV cA n.toNatClampNeg (fun _ => .null)) := by rw [← hH1, Array.getElem?_push_size, ← arrV_new]
  have o1 : ∀ q : Nat, q < H.size → H1[q]? = H[q]? := fun q hq => by rw [← hH1, Array.getElem?_push, if_neg (Nat.ne_of_lt hq)]
  have hcA : cA = gT G 1 := by
    obtain ⟨_, _, _, _, _, h5⟩ := (hE.1.2 1 (gT G 1, .object "java/lang/Object") rfl).2
    exact Option.some.inj (f1.symm.trans h5)
  subst hcA
  have hp : va_P (gD G) vwCl [(H.size, toE G (cR n.toNatClampNeg))] H1 := fun j x hj => by
    have hz : j < 1 := (List.getElem?_eq_some_iff.mp hj).1
    rw [show j = 0 by omega] at hj
    cases hj
    exact e1
  have h3 := kk h.1 _ H1 (hH.new hp z1 o1) hf
  rw [← hH.1.1] at h3
  exact W.widen (Nat.le_refl _) (by omega) h3
theorem p_cast (X : Cx G p s m args meth c cc nL own nm ret) (hH : Hx G s h H locs) {index ci N : Nat} {C : String} {T : u_T} (hc : vwCl[ci]? = some (C, T, N)) (hl : Cond.classLink own index C ∈ W0) {q : Nat} {F : Unit → Option β} (hf : rd (isC ci h q) F = some Rr) (hdg : decode cc pc = .ok (.checkcast index, 3))
    (kk : ∀ u, F u = some Rr → W p l e R s m args below meth c H locs cells slots Q (F0 m (pc + 3) ls (.ref q :: rest))) : W p l e R s m args below meth c H locs cells slots Q (F0 m pc ls (.ref q :: rest)) := by
  obtain ⟨v, h1, h2⟩ := rd_some hf
  obtain ⟨fs, hq⟩ := isC_spec h1
  obtain ⟨hx, hb, -, hown, hts, hE, -⟩ := id X
  exact va_castS hx hb hown (hts _ hl) (hE.1.1 ci _ hc).2 (va_recv hE.1 (hH.1.P1 hq) (q0 := 0) (ci := ci) (fs := fs) hc rfl) hdg (kk v h2)
theorem p_aast (X : Cx G p s m args meth c cc nL own nm ret) (hH : Hx G s h H locs) {q v : Nat} {i : Int32} {u : Unit} (hv : isO h v = some u) {F : PH → Option β} (hf : rd (aRs h q i (some v)) F = some Rr) (hdg : decode cc pc = .ok (.aastore, 1))
    (hob : ∀ ci, ci < 10 → ∃ C T N, vwCl[ci]? = some (C, T, N) ∧ (C, "java/lang/Object") ∈ owC)
    (kk : ∀ (h' : PH) (H' : Heap) (locs' : List Loc), Hx G s h' H' locs' → F h' = some Rr → W p l e R s m args below meth c H' locs' cells slots Q (F0 m (pc + 1) ls rest)) : W p l e R s m args below meth c H locs cells slots Q (F0 m pc ls (.ref v :: .int i :: .ref q :: rest)) := by
  obtain ⟨h', h1, h2⟩ := rd_some hf
  obtain ⟨n, f, hq, hin, rfl⟩ := aRs_spec h1
  obtain ⟨ci, fs, hvq, hci⟩ := isO_spec hv
  obtain ⟨C, T, N, hc, hcast⟩ := hob ci hci
  obtain ⟨hx, hb, -, -, -, hE, -⟩ := id X
  have hP := hH.1.P1 hq
  have hcs : va_Nw (.castable C "java/lang/Object") s := hE.2.2.2.2.1 _ (List.mem_append_left _ (List.mem_map.mpr ⟨_, hcast, rfl⟩))
  obtain ⟨cellV, g1, g3, ⟨kC, hkC⟩, hasg⟩ : va_Any "java/lang/Object" s H v := va_rAny (E := "java/lang/Object") hE.1 (hH.1.P1 hvq) (q0 := 0) (ci := ci) (fs := fs) rfl hc (fun comp c0 e1 e2 => by
    obtain ⟨c9, t9, f1, f2, f3⟩ := Cond.castable_spec (va_Nw.use (A := #[]) rfl hcs)
    rw [f1] at e2; cases e2
    rw [f2] at e1; cases e1
    exact f3)
  have hlt : i.toNatClampNeg < n := Nat.not_le.mp fun q => hin (Or.inr q)
  have h0 : ¬ i < 0 := fun q => hin (Or.inl q)
  obtain ⟨kA, comp, k1, k2, k3, -⟩ := (hE.1.2 1 (gT G 1, .object "java/lang/Object") rfl).2
  obtain ⟨kE, hkE, -⟩ := Vm.findClass_spec k3
  refine W.aast hx hb (hP 0 _ rfl) (fun q h => by cases h) (fun h => by cases h) k1 k2 rfl hkE ⟨h0, by show _ < (arrV _ _ _).slots.size; rw [arrV_size]; exact hlt⟩ g1 (fun q h => by rw [h] at g3; cases g3) hkC (hasg _ k3) rfl rfl hdg fun H1 e1 z oq => kk _ H1 _ (hH.set hq (fun j y hj => ?_) z oq) h2
  have hz : j < 1 := (List.getElem?_eq_some_iff.mp hj).1
  rw [show j = 0 by omega] at hj
  cases hj
  show H1[q]? = some (vp_cell _ _)
  rw [e1]
  rw [vp_cell_q, vp_cell_q, arrV_store]
  congr 2
  funext y
  by_cases hy : y = i.toNatClampNeg
  · subst hy
    simp [updV, va_up, va_rf]
  · simp [updV, va_up, hy]
theorem p_aastN (X : Cx G p s m args meth c cc nL own nm ret) (hH : Hx G s h H locs) {q : Nat} {i : Int32} {F : PH → Option β} (hf : rd (aRs h q i none) F = some Rr) (hdg : decode cc pc = .ok (.aastore, 1))
    (kk : ∀ (h' : PH) (H' : Heap) (locs' : List Loc), Hx G s h' H' locs' → F h' = some Rr → W p l e R s m args below meth c H' locs' cells slots Q (F0 m (pc + 1) ls rest)) : W p l e R s m args below meth c H locs cells slots Q (F0 m pc ls (.null :: .int i :: .ref q :: rest)) := by
  obtain ⟨h', h1, h2⟩ := rd_some hf
  obtain ⟨n, f, hq, hin, rfl⟩ := aRs_spec h1
  obtain ⟨hx, hb, -, -, -, hE, -⟩ := id X
  have hP := hH.1.P1 hq
  refine va_WaastN (C := "java/lang/Object") hx hb (hP 0 _ rfl) ((hE.1.2 1 _ rfl).1 n (fun j => va_rf (f j))) (fun h => by cases h) (by show ¬ (i < 0 ∨ (arrV _ _ _).slots.size ≤ _); rw [arrV_size]; exact hin) rfl rfl hdg fun H1 e1 z oq => kk _ H1 _ (hH.set hq (fun j y hj => ?_) z oq) h2
  have hz : j < 1 := (List.getElem?_eq_some_iff.mp hj).1
  rw [show j = 0 by omega] at hj
  cases hj
  show H1[q]? = some (vp_cell _ _)
  rw [e1]
  rw [vp_cell_q, vp_cell_q, arrV_store]
  congr 2
  funext y
  by_cases hy : y = i.toNatClampNeg
  · subst hy
    simp [updV, va_up, va_rf]
  · simp [updV, va_up, hy]
/-! statics -/
theorem p_stat (X : Cx G p s m args meth c cc nL own nm ret) (hH : Hx G s h H locs) {C n d : String} {a index : Nat} (hZ : va_Z C n d (.ref a) (gA G) s (gH G)) (hl : Cond.fieldLink own index C n d ∈ W0) (hdg : decode cc pc = .ok (.getstatic index, 3))
    (kk : W p l e R s m args below meth c H locs cells slots Q (F0 m (pc + 3) ls (.ref a :: rest))) : W p l e R s m args below meth c H locs cells slots Q (F0 m pc ls rest) := by
  have hS := Hx.S X hH
  obtain ⟨hx, hb, -, hown, hts, hE, -⟩ := id X
  exact va_gets hx hb (hZ.kept (hS0 X)) hS hown (hts _ hl) (fun _ h => h) hdg kk
theorem p_tlen (X : Cx G p s m args meth c cc nL own nm ret) (hH : Hx G s h H locs) {ty : FieldType} {t N : Nat} {f : Nat → Value} (hT : va_T ty t N f (gA G) s (gH G)) {v : Int32} (hv : Int32.ofNat N = v) (hdg : decode cc pc = .ok (.arraylength, 1))
    (kk : W p l e R s m args below meth c H locs cells slots Q (F0 m (pc + 1) ls (.int v :: rest))) : W p l e R s m args below meth c H locs cells slots Q (F0 m pc ls (.ref t :: rest)) :=
  va_tlen X.1 X.2.1 (hT.kept (hS0 X)) (Hx.S X hH) hv hdg kk
theorem p_ti (X : Cx G p s m args meth c cc nL own nm ret) (hH : Hx G s h H locs) {t : Nat} {g : Nat → Int32} (hT : va_T .int t 8 (fun j => .int (g j)) (gA G) s (gH G)) {i : Int32} {F : Option β} (hf : ti i F = some Rr) (hdg : decode cc pc = .ok (.iaload, 1))
    (kk : F = some Rr → W p l e R s m args below meth c H locs cells slots Q (F0 m (pc + 1) ls (.int (g i.toNatClampNeg) :: rest))) : W p l e R s m args below meth c H locs cells slots Q (F0 m pc ls (.int i :: .ref t :: rest)) := by
  unfold ti at hf
  split at hf
  · rename_i hin
    exact va_ti X.1 X.2.1 (hT.kept (hS0 X)) (Hx.S X hH) hin rfl hdg (kk hf)
  · cases hf
end PRX
