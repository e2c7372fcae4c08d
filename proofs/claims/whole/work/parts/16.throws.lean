/-! ===== rows over pure heaps: a copy of references; throws ===== -/
section PRR
variable {G : GE} {p : Program} {l : Launch} {e : Env} {R : Room} {s : State} {m : MethodId} {args : Array Value} {below : List Frame} {meth : Method} {c : Code} {H : Heap} {locs : List Loc} {cells slots : Nat} {Q : State → Prop}
variable {cc : ByteArray} {nL : Nat} {own nm : String} {ret : Option FieldType} {pc : Nat} {ls : Array Slot} {rest : List Value} {h h' : PH} {β : Type} {Rr : β}
/-- any class of ours is an Object -/
def Ob : Prop := ∀ ci, ci < 10 → ∃ C T N, vwCl[ci]? = some (C, T, N) ∧ (C, "java/lang/Object") ∈ owC
theorem vw_ob : Ob := by
  intro ci hci
  rcases (show ci = 0 ∨ ci = 1 ∨ ci = 2 ∨ ci = 3 ∨ ci = 4 ∨ ci = 5 ∨ ci = 6 ∨ ci = 7 ∨ ci = 8 ∨ ci = 9 by omega) with rfl | rfl | rfl | rfl | rfl | rfl | rfl | rfl | rfl | rfl
  · exact ⟨_, _, _, rfl, by decide⟩
  · exact ⟨_, _, _, rfl, by decide⟩
  · exact ⟨_, _, _, rfl, by decide⟩
  · exact ⟨_, _, _, rfl, by decide⟩
  · exact ⟨_, _, _, rfl, by decide⟩
  · exact ⟨_, _, _, rfl, by decide⟩
  · exact ⟨_, _, _, rfl, by decide⟩
  · exact ⟨_, _, _, rfl, by decide⟩
  · exact ⟨_, _, _, rfl, by decide⟩
  · exact ⟨_, _, _, rfl, by decide⟩
theorem any_of {s : State} (hE : EvG G s) (hH : Hd G h H) {v ci : Nat} {fs : List Value} (hvq : h.2 v = some (.inr (ci, fs))) (hci : ci < 10) : va_Any "java/lang/Object" s H v := by
  obtain ⟨C, T, N, hc, hcast⟩ := vw_ob ci hci
  have hcs : va_Nw (.castable C "java/lang/Object") s := hE.2.2.2.2.1 _ (List.mem_append_left _ (List.mem_map.mpr ⟨_, hcast, rfl⟩))
  exact va_rAny (E := "java/lang/Object") hE.1 (hH.P1 hvq) (q0 := 0) (ci := ci) (fs := fs) rfl hc (fun comp c0 e1 e2 => by
    obtain ⟨c9, t9, f1, f2, f3⟩ := Cond.castable_spec (va_Nw.use (A := #[]) rfl hcs)
    rw [f1] at e2; cases e2
    rw [f2] at e1; cases e1
    exact f3)
theorem cpR_spec {src dst : Nat} {sp dp n : Int32} {h' : PH} (e : cpR h src sp dst dp n = some h') : ∃ n0 f n1 g, h.2 src = some (.inl (1, n0, .inr (.inr (.inr (.inr f))))) ∧ h.2 dst = some (.inl (1, n1, .inr (.inr (.inr (.inr g))))) ∧ ¬ sp < 0 ∧ ¬ dp < 0 ∧ ¬ n < 0 ∧ sp.toNatClampNeg + n.toNatClampNeg ≤ n0 ∧ dp.toNatClampNeg + n.toNatClampNeg ≤ n1 ∧ okR h f sp.toNatClampNeg n.toNatClampNeg ∧ h' = (h.1, va_up h.2 dst (some (.inl (1, n1, .inr (.inr (.inr (.inr (va_cpy f g sp.toNatClampNeg dp.toNatClampNeg n.toNatClampNeg)))))))) := by
  unfold cpR at e
  split at e
  · rename_i k0 n0 f k1 n1 g h1 h2
    split at e
    · rename_i hc
      obtain ⟨rfl, rfl, c1, c2, c3, c4, c5, c6⟩ := hc
      exact ⟨n0, f, n1, g, h1, h2, c1, c2, c3, c4, c5, c6, (Option.some.inj e).symm⟩
    · cases e
  · cases e
theorem p_copy1 (X : Cx G p s m args meth c cc nL own nm ret) (hH : Hx G s h H locs) {index : Nat} (hlk : Cond.methodLink own index arraycopyName ∈ W0) (hna : Cond.native arraycopyName ∈ W0) (hst : Cond.static arraycopyName ∈ W0) (hin : Cond.initialized "java/lang/System" ∈ W0) (hls : ls.size = nL) (hframes : 1 ≤ R.frames) (hlo : (rest.map fun v => v.category).sum + (nativeFrameWords "java/lang/System" "arraycopy" 5 + 11) ≤ R.locals)
    {src dst : Nat} {sp dp n : Int32} {F : PH → Option β} (hf : rd (cpR h src sp dst dp n) F = some Rr) (hdg : decode cc pc = .ok (.invokestatic index, 3))
    (kk : ∀ (h' : PH) (H' : Heap) (locs' : List Loc), Hx G s h' H' locs' → F h' = some Rr → W p l e R s m args below meth c H' locs' cells slots Q (F0 m (pc + 3) ls rest)) : W p l e R s m args below meth c H locs cells slots Q (F0 m pc ls (.int n :: .int dp :: .ref dst :: .int sp :: .ref src :: rest)) := by
  obtain ⟨h', he, h2⟩ := rd_some hf
  obtain ⟨n0, f, n1, g, q0, q1, c1, c2, c3, c4, c5, c6, rfl⟩ := cpR_spec he
  obtain ⟨hx, hb, hml, hown, hts, hE, -⟩ := id X
  have hk : (tysL G)[1]? = some (gT G 1, .object "java/lang/Object") := rfl
  intro T hT X0
  have hc0 : H[src]? = some (vp_cell (gT G 1) (n0, .inr (.inr (.inr (.inr f))))) := hH.1.at q0
  have hc1 : H[dst]? = some (vp_cell (gT G 1) (n1, .inr (.inr (.inr (.inr g))))) := hH.1.at q1
  obtain ⟨-, k0, hk0, cm0, hkk0⟩ := (hE.1.2 1 _ hk).1 n0 (fun j => va_rf (f j))
  obtain ⟨-, k1, hk1, cm1, hkk1⟩ := (hE.1.2 1 _ hk).1 n1 (fun j => va_rf (g j))
  obtain ⟨vm', X', step⟩ := X0.arraycopy hx hown (hts _ hlk) (hts _ hna) (hts _ hst) (hts _ hin) (src := src) (dst := dst) (cs := vp_cell (gT G 1) (n0, .inr (.inr (.inr (.inr f))))) (cd := vp_cell (gT G 1) (n1, .inr (.inr (.inr (.inr g))))) (srcPos := sp) (destPos := dp) (n := n) (by rw [hT]; exact hc0) (by rw [hT]; exact hc1)
    (fun _ h => by cases h) (fun _ h => by cases h) (fun h => by cases h) (fun h => by cases h) hk0 hk1 hkk0 hkk1 rfl c1 c2 c3
    (by rw [nnI c1, nnI c3]; show ¬ _ > ((arrV (gT G 1) n0 (fun j => va_rf (f j))).slots.size : Int); rw [arrV_size]; omega)
    (by rw [nnI c2, nnI c3]; show ¬ _ > ((arrV (gT G 1) n1 (fun j => va_rf (g j))).slots.size : Int); rw [arrV_size]; omega)
    (fun vm₁ hal i hi => by
      have e : (vp_cell (gT G 1) (n0, .inr (.inr (.inr (.inr f))))).slots.getD (sp.toNatClampNeg + i) .null = va_rf (f (sp.toNatClampNeg + i)) := by
        show (arrV (gT G 1) n0 (fun j => va_rf (f j))).slots.getD _ _ = _
        rw [Array.getD_eq_getD_getElem?, arrV_read _ _ (by omega)]
        rfl
      rw [e]
      cases hy : f (sp.toNatClampNeg + i) with
      | none => exact ⟨rfl, trivial⟩
      | some y =>
        obtain ⟨ci, fs, hyq, hci⟩ := c6 i hi y hy
        obtain ⟨cellV, g1, g2, ⟨kC, hkC⟩, hasg⟩ := any_of hE hH.1 hyq hci
        obtain ⟨kA, comp, r1, r2, r3, -⟩ := (hE.1.2 1 _ hk).2
        cases hk1.symm.trans r1
        cases hkk1.symm.trans r2
        obtain ⟨kE, hkE, -⟩ := Vm.findClass_spec r3
        obtain ⟨kC', hkC', -⟩ := hal.2.2 _ _ hkC
        obtain ⟨kE', hkE', -⟩ := hal.2.2 _ _ hkE
        refine ⟨rfl, cellV, (show T.heap[y]? = some cellV by rw [hT]; exact g1), (fun q h => by rw [h] at g2; cases g2), ⟨kC', hkC'⟩, ?_, ?_⟩
        · exact ⟨kE', hkE'⟩
        · show vm₁.assignable _ _ = true
          rw [hal.assignable]
          exact hasg _ r3)
    (g := F0 m pc ls (.int n :: .int dp :: .ref dst :: .int sp :: .ref src :: rest)) rfl (by rw [hml]; exact hls) (rest := rest) rfl (by rw [hb]; exact hdg) hframes (by show 2 * 0 + _ + _ ≤ _; omega)
  have e1 : copied (vp_cell (gT G 1) (n0, .inr (.inr (.inr (.inr f))))) (vp_cell (gT G 1) (n1, .inr (.inr (.inr (.inr g))))) sp dp n = vp_cell (gT G 1) (n1, .inr (.inr (.inr (.inr (va_cpy f g sp.toNatClampNeg dp.toNatClampNeg n.toNatClampNeg))))) := by
    rw [vp_cell_q, vp_cell_q, vp_cell_q]
    exact va_copied (fun z => va_rf z) (gT G 1) (gT G 1) f g c4
  rw [e1] at X' step
  have hl : dst < H.size := (Array.getElem?_eq_some_iff.mp hc1).1
  have hheap : ((T.setVm vm').setCell dst (vp_cell (gT G 1) (n1, .inr (.inr (.inr (.inr (va_cpy f g sp.toNatClampNeg dp.toNatClampNeg n.toNatClampNeg))))))).heap = H.setIfInBounds dst (vp_cell (gT G 1) (n1, .inr (.inr (.inr (.inr (va_cpy f g sp.toNatClampNeg dp.toNatClampNeg n.toNatClampNeg)))))) := by rw [← hT]; rfl
  have oq : ∀ q : Nat, q ≠ dst → (H.setIfInBounds dst (vp_cell (gT G 1) (n1, .inr (.inr (.inr (.inr (va_cpy f g sp.toNatClampNeg dp.toNatClampNeg n.toNatClampNeg)))))))[q]? = H[q]? := fun q hq => by simp [Array.getElem?_setIfInBounds, Ne.symm hq]
  obtain ⟨t, a1, b1⟩ := kk _ _ _ ⟨hH.1.set q1 (c2 := .inl (1, n1, .inr (.inr (.inr (.inr (va_cpy f g sp.toNatClampNeg dp.toNatClampNeg n.toNatClampNeg)))))) (fun j y hj => by
      have hz : j < 1 := (List.getElem?_eq_some_iff.mp hj).1
      rw [show j = 0 by omega] at hj
      cases hj
      show (H.setIfInBounds dst _)[dst]? = some _
      simp [Array.getElem?_setIfInBounds, hl]) (by simp) oq, by simp; exact hH.2.1, fun q hq => by
      rcases List.mem_append.mp hq with h | h
      · exact hH.2.2 q h
      · obtain ⟨z, -, hz⟩ := List.mem_map.mp h
        rw [← hz]
        exact (hH.1.2.2.2 dst _ q1).2⟩ h2 _ hheap X'
  exact ⟨t, step t a1, b1⟩
/-! methods that may throw -/
def xQ (G : GE) (o : Sum Int32 String) (h' : PH) : Array Value → State → Outcome → State → Prop := fun _ _ oc t => ∃ r, o = .inl r ∧ oc = .returned (some (.int r)) ∧ Hd G h' t.heap
def xX (G : GE) (o : Sum Int32 String) (h' : PH) : String → State → State → Prop := fun E _ t => o = .inr E ∧ ∃ sz, Hd G (sz, h'.2) t.heap
def Xt (l : Launch) (y : MethodName) (bytes : ByteArray) (maxL : Nat) (rm : Room) (G : GE) (vs : List Value) (h : PH) (o : Sum Int32 String) (h' : PH) : Prop :=
  vx_Met l y (.code y bytes maxL (some .int) :: W0) rm (va_Pc vs (fun U => Hd G h U.heap ∧ EvG G U)) (xQ G o h') (xX G o h') rm.cells rm.slots (gA G)
abbrev Xq (G : GE) (o : Sum Int32 String) (h' : PH) (below : List Frame) (args : Array Value) (s : State) (mc ms : Nat) : State → Prop := vx_MQ below (xQ G o h') (xX G o h') args s mc ms (gA G)
theorem Xt.of {l : Launch} {y : MethodName} {bytes : ByteArray} {maxL : Nat} {rm : Room} {G : GE} {vs : List Value} {h : PH} {o : Sum Int32 String} {h' : PH} (hy : plainName y.cls = true) (hvs : (lg_sl vs).length ≤ maxL)
    (body : ∀ (p : Program) (e : Env) (s : State) (m : MethodId) (args : Array Value) (below : List Frame) (meth : Method) (c : Code) (ls : Array Slot), Cx G p s m args meth c bytes maxL y.cls y.name (some .int) → (∀ x ∈ c.exceptionTable.toList, False) → Hx G s h s.heap [] → lv_has ls maxL (lv_args 0 vs) →
      W p l e rm s m args below meth c s.heap [] 0 0 (Xq G o h' below args s rm.cells rm.slots) (F0 m 0 ls [])) : Xt l y bytes maxL rm G vs h o h' := by
  refine vx_ofW (cc := bytes) (maxL := maxL) (ret := some .int) hy rfl ?_
  intro p e s m args below meth c s₁ B hml hex hv
  obtain ⟨rfl, hH, hE⟩ := hv
  have hts := atoms_spec (ws := .code y bytes maxL (some .int) :: W0) B.pre
  have hl := lv_entry vs (n := maxL) hvs
  rw [lg_entry_eq]
  exact body p e s m _ below meth c _ ⟨B.exec, B.bytes, hml, findClass_of_methodNamed B.named, fun w hw => hts w (List.mem_cons_of_mem _ hw), hE, B.notSynchronized, (name_of_methodNamed B.named B.method).1, B.returns, by rw [hH.1]; exact hH.2.1, hH.2.2.1⟩ hex ⟨hH, Nat.le_refl _, fun z hz => by cases hz⟩ hl
theorem p_xret (X : Cx G p s m args meth c cc nL own nm (some .int)) (hH : Hx G s h H locs) {o : Sum Int32 String} {x : Int32} {mc ms : Nat} (hf : some (Sum.inl x, h) = some (o, h')) (hc : cells ≤ mc) (hs : slots ≤ ms) (hdg : decode cc pc = .ok (.ireturn, 1)) : W p l e R s m args below meth c H locs cells slots (Xq G o h' below args s mc ms) (F0 m pc ls [.int x]) := by
  cases hf
  obtain ⟨hx, hb, -, -, -, -, hlocks, -, hr, -⟩ := X
  refine W.widen hc hs (vx_ret ?_)
  exact W.iret hx hb hr (fun t ht _ => ⟨x, rfl, rfl, by rw [ht]; exact hH.1⟩) hH.2.2 hdg hlocks
def exn : List String := ["java/lang/RuntimeException", "java/lang/Exception"]
theorem grown {H H1 : Heap} (hH : Hd G h H) (h1 : H.size ≤ H1.size) (h2 : ∀ q : Nat, q < H.size → H1[q]? = H[q]?) : Hd G (H1.size, h.2) H1 := by
  obtain ⟨a1, a2, a3, a4⟩ := hH
  refine ⟨rfl, by show gB G ≤ H1.size; omega, fun q hq => ?_, fun q c hc => ?_⟩
  · rw [h2 q (by omega)]; exact a3 q hq
  · obtain ⟨b1, b2⟩ := a4 q c hc
    exact ⟨b1.kept (h2 q b1.lt), b2⟩
theorem xg_iae : ∀ w ∈ (vx_atS "VaneHouse" 57 "java/lang/IllegalArgumentException" exn).filter goodWord, w ∈ W0 := by decide +kernel
theorem xn_iae : ∀ w ∈ (vx_atS "VaneHouse" 57 "java/lang/IllegalArgumentException" exn).filter (fun w => !goodWord w), w ∈ OW := by decide +kernel
theorem xo_iae : ∀ w ∈ Cond.classLink "VaneHouse" 53 "java/lang/IllegalArgumentException" :: Cond.initialized "java/lang/IllegalArgumentException" :: vx_atS "VaneHouse" 57 "java/lang/IllegalArgumentException" exn, vx_ot w = true := by decide +kernel
theorem xk_iae : Cond.classLink "VaneHouse" 53 "java/lang/IllegalArgumentException" ∈ W0 := by decide +kernel
theorem xi_iae : Cond.initialized "java/lang/IllegalArgumentException" ∈ W0 := by decide +kernel
theorem p_thr_iae (X : Cx G p s m args meth c cc nL "VaneHouse" nm ret) (hH : Hx G s h H locs) {is : Nat} {tx : String} (hstr : (is, tx) ∈ strs) {o : Sum Int32 String} {mc ms : Nat} (hf : some (Sum.inr "java/lang/IllegalArgumentException", h) = some (o, h')) (hfl : l.stackTraces = false) (hex : ∀ x ∈ c.exceptionTable.toList, False) (hls : ls.size = nL)
    (hRf : 5 < R.frames) (hRl : (rest.map fun v => v.category).sum + 82 ≤ R.locals) (hRc : cells + 1 ≤ R.cells) (hRs : slots + 6 ≤ R.slots) (hc : cells + 1 ≤ mc) (hs : slots + 6 ≤ ms) (d0 : decode cc pc = .ok (.new 53, 3)) (d3 : decode cc (pc + 3) = .ok (.dup, 1)) (d4 : decode cc (pc + 4) = .ok (.ldc is, 2)) (d6 : decode cc (pc + 6) = .ok (.invokespecial 57, 3)) (d9 : decode cc (pc + 9) = .ok (.athrow, 1)) : W p l e R s m args below meth c H locs cells slots (Xq G o h' below args s mc ms) (F0 m pc ls rest) := by
  cases hf
  have hS := Hx.S X hH
  obtain ⟨hx, hb, hml, hown, hts, hE, hlocks, -⟩ := id X
  obtain ⟨sa, hsa⟩ := hE.2.2.2.2.2.2.2.1 _ hstr
  have hU := hE.2.2.2.2.2.2.1.1.kept (hS0 X)
  have hN := hE.2.2.2.2.2.2.1.2.kept (hS0 X)
  refine vx_throwS hx hb hfl (names := exn) hown (by decide +kernel) (by decide +kernel) (hts _ xk_iae) (hts _ xi_iae) hsa
    (vx_hat (B := OW) (fun w hw => hts w (xg_iae w hw)) xn_iae (fun w hw => ?_)) xo_iae hU hN hS (hls.trans hml.symm) d0 d3 d4 d6 d9 (fun x hx => (hex x hx).elim) hRf hRl hRc hRs hlocks (fun t ht h1 h2 => ⟨rfl, t.heap.size, grown hH.1 h1 h2⟩) hH.2.2 hc hs
  have h9 := hE.2.2.2.2.1 w hw
  rcases List.mem_append.mp hw with hw | hw
  · obtain ⟨z, -, rfl⟩ := List.mem_map.mp hw
    exact va_Nw.use rfl h9
  · obtain ⟨z, -, rfl⟩ := List.mem_map.mp hw
    exact va_Nw.use rfl h9
theorem p_thrW_iae (X : Cx G p s m args meth c cc nL "VaneHouse" nm ret) (hH : Hx G s h H locs) {is : Nat} {tx : String} (hstr : (is, tx) ∈ strs) {o : Sum Int32 String} {mc ms : Nat} (hf : some (Sum.inr "java/lang/IllegalArgumentException", h) = some (o, h')) (hfl : l.stackTraces = false) (hex : ∀ x ∈ c.exceptionTable.toList, False) (hls : ls.size = nL)
    (hRf : 5 < R.frames) (hRl : (rest.map fun v => v.category).sum + 82 ≤ R.locals) (hRc : cells + 1 ≤ R.cells) (hRs : slots + 6 ≤ R.slots) (hc : cells + 1 ≤ mc) (hs : slots + 6 ≤ ms) (d0 : decode cc pc = .ok (.new 53, 3)) (d3 : decode cc (pc + 3) = .ok (.dup, 1)) (d4 : decode cc (pc + 4) = .ok (.ldc_w is, 3)) (d7 : decode cc (pc + 7) = .ok (.invokespecial 57, 3)) (d10 : decode cc (pc + 10) = .ok (.athrow, 1)) : W p l e R s m args below meth c H locs cells slots (Xq G o h' below args s mc ms) (F0 m pc ls rest) := by
  cases hf
  have hS := Hx.S X hH
  obtain ⟨hx, hb, hml, hown, hts, hE, hlocks, -⟩ := id X
  obtain ⟨sa, hsa⟩ := hE.2.2.2.2.2.2.2.1 _ hstr
  have hU := hE.2.2.2.2.2.2.1.1.kept (hS0 X)
  have hN := hE.2.2.2.2.2.2.1.2.kept (hS0 X)
  refine vx_throwSW hx hb hfl (names := exn) hown (by decide +kernel) (by decide +kernel) (hts _ xk_iae) (hts _ xi_iae) hsa
    (vx_hat (B := OW) (fun w hw => hts w (xg_iae w hw)) xn_iae (fun w hw => ?_)) xo_iae hU hN hS (hls.trans hml.symm) d0 d3 d4 d7 d10 (fun x hx => (hex x hx).elim) hRf hRl hRc hRs hlocks (fun t ht h1 h2 => ⟨rfl, t.heap.size, grown hH.1 h1 h2⟩) hH.2.2 hc hs
  have h9 := hE.2.2.2.2.1 w hw
  rcases List.mem_append.mp hw with hw | hw
  · obtain ⟨z, -, rfl⟩ := List.mem_map.mp hw
    exact va_Nw.use rfl h9
  · obtain ⟨z, -, rfl⟩ := List.mem_map.mp hw
    exact va_Nw.use rfl h9
theorem xg_ise : ∀ w ∈ (vx_atS "VaneHouse" 71 "java/lang/IllegalStateException" exn).filter goodWord, w ∈ W0 := by decide +kernel
theorem xn_ise : ∀ w ∈ (vx_atS "VaneHouse" 71 "java/lang/IllegalStateException" exn).filter (fun w => !goodWord w), w ∈ OW := by decide +kernel
theorem xo_ise : ∀ w ∈ Cond.classLink "VaneHouse" 67 "java/lang/IllegalStateException" :: Cond.initialized "java/lang/IllegalStateException" :: vx_atS "VaneHouse" 71 "java/lang/IllegalStateException" exn, vx_ot w = true := by decide +kernel
theorem xk_ise : Cond.classLink "VaneHouse" 67 "java/lang/IllegalStateException" ∈ W0 := by decide +kernel
theorem xi_ise : Cond.initialized "java/lang/IllegalStateException" ∈ W0 := by decide +kernel
theorem p_thr_ise (X : Cx G p s m args meth c cc nL "VaneHouse" nm ret) (hH : Hx G s h H locs) {is : Nat} {tx : String} (hstr : (is, tx) ∈ strs) {o : Sum Int32 String} {mc ms : Nat} (hf : some (Sum.inr "java/lang/IllegalStateException", h) = some (o, h')) (hfl : l.stackTraces = false) (hex : ∀ x ∈ c.exceptionTable.toList, False) (hls : ls.size = nL)
    (hRf : 5 < R.frames) (hRl : (rest.map fun v => v.category).sum + 82 ≤ R.locals) (hRc : cells + 1 ≤ R.cells) (hRs : slots + 6 ≤ R.slots) (hc : cells + 1 ≤ mc) (hs : slots + 6 ≤ ms) (d0 : decode cc pc = .ok (.new 67, 3)) (d3 : decode cc (pc + 3) = .ok (.dup, 1)) (d4 : decode cc (pc + 4) = .ok (.ldc is, 2)) (d6 : decode cc (pc + 6) = .ok (.invokespecial 71, 3)) (d9 : decode cc (pc + 9) = .ok (.athrow, 1)) : W p l e R s m args below meth c H locs cells slots (Xq G o h' below args s mc ms) (F0 m pc ls rest) := by
  cases hf
  have hS := Hx.S X hH
  obtain ⟨hx, hb, hml, hown, hts, hE, hlocks, -⟩ := id X
  obtain ⟨sa, hsa⟩ := hE.2.2.2.2.2.2.2.1 _ hstr
  have hU := hE.2.2.2.2.2.2.1.1.kept (hS0 X)
  have hN := hE.2.2.2.2.2.2.1.2.kept (hS0 X)
  refine vx_throwS hx hb hfl (names := exn) hown (by decide +kernel) (by decide +kernel) (hts _ xk_ise) (hts _ xi_ise) hsa
    (vx_hat (B := OW) (fun w hw => hts w (xg_ise w hw)) xn_ise (fun w hw => ?_)) xo_ise hU hN hS (hls.trans hml.symm) d0 d3 d4 d6 d9 (fun x hx => (hex x hx).elim) hRf hRl hRc hRs hlocks (fun t ht h1 h2 => ⟨rfl, t.heap.size, grown hH.1 h1 h2⟩) hH.2.2 hc hs
  have h9 := hE.2.2.2.2.1 w hw
  rcases List.mem_append.mp hw with hw | hw
  · obtain ⟨z, -, rfl⟩ := List.mem_map.mp hw
    exact va_Nw.use rfl h9
  · obtain ⟨z, -, rfl⟩ := List.mem_map.mp hw
    exact va_Nw.use rfl h9
theorem p_thrW_ise (X : Cx G p s m args meth c cc nL "VaneHouse" nm ret) (hH : Hx G s h H locs) {is : Nat} {tx : String} (hstr : (is, tx) ∈ strs) {o : Sum Int32 String} {mc ms : Nat} (hf : some (Sum.inr "java/lang/IllegalStateException", h) = some (o, h')) (hfl : l.stackTraces = false) (hex : ∀ x ∈ c.exceptionTable.toList, False) (hls : ls.size = nL)
    (hRf : 5 < R.frames) (hRl : (rest.map fun v => v.category).sum + 82 ≤ R.locals) (hRc : cells + 1 ≤ R.cells) (hRs : slots + 6 ≤ R.slots) (hc : cells + 1 ≤ mc) (hs : slots + 6 ≤ ms) (d0 : decode cc pc = .ok (.new 67, 3)) (d3 : decode cc (pc + 3) = .ok (.dup, 1)) (d4 : decode cc (pc + 4) = .ok (.ldc_w is, 3)) (d7 : decode cc (pc + 7) = .ok (.invokespecial 71, 3)) (d10 : decode cc (pc + 10) = .ok (.athrow, 1)) : W p l e R s m args below meth c H locs cells slots (Xq G o h' below args s mc ms) (F0 m pc ls rest) := by
  cases hf
  have hS := Hx.S X hH
  obtain ⟨hx, hb, hml, hown, hts, hE, hlocks, -⟩ := id X
  obtain ⟨sa, hsa⟩ := hE.2.2.2.2.2.2.2.1 _ hstr
  have hU := hE.2.2.2.2.2.2.1.1.kept (hS0 X)
  have hN := hE.2.2.2.2.2.2.1.2.kept (hS0 X)
  refine vx_throwSW hx hb hfl (names := exn) hown (by decide +kernel) (by decide +kernel) (hts _ xk_ise) (hts _ xi_ise) hsa
    (vx_hat (B := OW) (fun w hw => hts w (xg_ise w hw)) xn_ise (fun w hw => ?_)) xo_ise hU hN hS (hls.trans hml.symm) d0 d3 d4 d7 d10 (fun x hx => (hex x hx).elim) hRf hRl hRc hRs hlocks (fun t ht h1 h2 => ⟨rfl, t.heap.size, grown hH.1 h1 h2⟩) hH.2.2 hc hs
  have h9 := hE.2.2.2.2.1 w hw
  rcases List.mem_append.mp hw with hw | hw
  · obtain ⟨z, -, rfl⟩ := List.mem_map.mp hw
    exact va_Nw.use rfl h9
  · obtain ⟨z, -, rfl⟩ := List.mem_map.mp hw
    exact va_Nw.use rfl h9
theorem xg_ioo : ∀ w ∈ (vx_atS "VaneHouse" 78 "java/lang/IndexOutOfBoundsException" exn).filter goodWord, w ∈ W0 := by decide +kernel
theorem xn_ioo : ∀ w ∈ (vx_atS "VaneHouse" 78 "java/lang/IndexOutOfBoundsException" exn).filter (fun w => !goodWord w), w ∈ OW := by decide +kernel
theorem xo_ioo : ∀ w ∈ Cond.classLink "VaneHouse" 74 "java/lang/IndexOutOfBoundsException" :: Cond.initialized "java/lang/IndexOutOfBoundsException" :: vx_atS "VaneHouse" 78 "java/lang/IndexOutOfBoundsException" exn, vx_ot w = true := by decide +kernel
theorem xk_ioo : Cond.classLink "VaneHouse" 74 "java/lang/IndexOutOfBoundsException" ∈ W0 := by decide +kernel
theorem xi_ioo : Cond.initialized "java/lang/IndexOutOfBoundsException" ∈ W0 := by decide +kernel
theorem p_thr_ioo (X : Cx G p s m args meth c cc nL "VaneHouse" nm ret) (hH : Hx G s h H locs) {is : Nat} {tx : String} (hstr : (is, tx) ∈ strs) {o : Sum Int32 String} {mc ms : Nat} (hf : some (Sum.inr "java/lang/IndexOutOfBoundsException", h) = some (o, h')) (hfl : l.stackTraces = false) (hex : ∀ x ∈ c.exceptionTable.toList, False) (hls : ls.size = nL)
    (hRf : 5 < R.frames) (hRl : (rest.map fun v => v.category).sum + 82 ≤ R.locals) (hRc : cells + 1 ≤ R.cells) (hRs : slots + 6 ≤ R.slots) (hc : cells + 1 ≤ mc) (hs : slots + 6 ≤ ms) (d0 : decode cc pc = .ok (.new 74, 3)) (d3 : decode cc (pc + 3) = .ok (.dup, 1)) (d4 : decode cc (pc + 4) = .ok (.ldc is, 2)) (d6 : decode cc (pc + 6) = .ok (.invokespecial 78, 3)) (d9 : decode cc (pc + 9) = .ok (.athrow, 1)) : W p l e R s m args below meth c H locs cells slots (Xq G o h' below args s mc ms) (F0 m pc ls rest) := by
  cases hf
  have hS := Hx.S X hH
  obtain ⟨hx, hb, hml, hown, hts, hE, hlocks, -⟩ := id X
  obtain ⟨sa, hsa⟩ := hE.2.2.2.2.2.2.2.1 _ hstr
  have hU := hE.2.2.2.2.2.2.1.1.kept (hS0 X)
  have hN := hE.2.2.2.2.2.2.1.2.kept (hS0 X)
  refine vx_throwS hx hb hfl (names := exn) hown (by decide +kernel) (by decide +kernel) (hts _ xk_ioo) (hts _ xi_ioo) hsa
    (vx_hat (B := OW) (fun w hw => hts w (xg_ioo w hw)) xn_ioo (fun w hw => ?_)) xo_ioo hU hN hS (hls.trans hml.symm) d0 d3 d4 d6 d9 (fun x hx => (hex x hx).elim) hRf hRl hRc hRs hlocks (fun t ht h1 h2 => ⟨rfl, t.heap.size, grown hH.1 h1 h2⟩) hH.2.2 hc hs
  have h9 := hE.2.2.2.2.1 w hw
  rcases List.mem_append.mp hw with hw | hw
  · obtain ⟨z, -, rfl⟩ := List.mem_map.mp hw
    exact va_Nw.use rfl h9
  · obtain ⟨z, -, rfl⟩ := List.mem_map.mp hw
    exact va_Nw.use rfl h9
theorem p_thrW_ioo (X : Cx G p s m args meth c cc nL "VaneHouse" nm ret) (hH : Hx G s h H locs) {is : Nat} {tx : String} (hstr : (is, tx) ∈ strs) {o : Sum Int32 String} {mc ms : Nat} (hf : some (Sum.inr "java/lang/IndexOutOfBoundsException", h) = some (o, h')) (hfl : l.stackTraces = false) (hex : ∀ x ∈ c.exceptionTable.toList, False) (hls : ls.size = nL)
    (hRf : 5 < R.frames) (hRl : (rest.map fun v => v.category).sum + 82 ≤ R.locals) (hRc : cells + 1 ≤ R.cells) (hRs : slots + 6 ≤ R.slots) (hc : cells + 1 ≤ mc) (hs : slots + 6 ≤ ms) (d0 : decode cc pc = .ok (.new 74, 3)) (d3 : decode cc (pc + 3) = .ok (.dup, 1)) (d4 : decode cc (pc + 4) = .ok (.ldc_w is, 3)) (d7 : decode cc (pc + 7) = .ok (.invokespecial 78, 3)) (d10 : decode cc (pc + 10) = .ok (.athrow, 1)) : W p l e R s m args below meth c H locs cells slots (Xq G o h' below args s mc ms) (F0 m pc ls rest) := by
  cases hf
  have hS := Hx.S X hH
  obtain ⟨hx, hb, hml, hown, hts, hE, hlocks, -⟩ := id X
  obtain ⟨sa, hsa⟩ := hE.2.2.2.2.2.2.2.1 _ hstr
  have hU := hE.2.2.2.2.2.2.1.1.kept (hS0 X)
  have hN := hE.2.2.2.2.2.2.1.2.kept (hS0 X)
  refine vx_throwSW hx hb hfl (names := exn) hown (by decide +kernel) (by decide +kernel) (hts _ xk_ioo) (hts _ xi_ioo) hsa
    (vx_hat (B := OW) (fun w hw => hts w (xg_ioo w hw)) xn_ioo (fun w hw => ?_)) xo_ioo hU hN hS (hls.trans hml.symm) d0 d3 d4 d7 d10 (fun x hx => (hex x hx).elim) hRf hRl hRc hRs hlocks (fun t ht h1 h2 => ⟨rfl, t.heap.size, grown hH.1 h1 h2⟩) hH.2.2 hc hs
  have h9 := hE.2.2.2.2.1 w hw
  rcases List.mem_append.mp hw with hw | hw
  · obtain ⟨z, -, rfl⟩ := List.mem_map.mp hw
    exact va_Nw.use rfl h9
  · obtain ⟨z, -, rfl⟩ := List.mem_map.mp hw
    exact va_Nw.use rfl h9
end PRR
