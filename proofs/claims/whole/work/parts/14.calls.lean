/-! ===== contracts, calls, ends ===== -/
def Qv (G : GE) (v : Option Value) (h' : PH) : Array Value → State → Outcome → State → Prop := fun _ _ oc t => oc = .returned v ∧ Hd G h' t.heap
/-- from the pure heap h the method y answers v and leaves h' -/
def Ct (l : Launch) (y : MethodName) (bytes : ByteArray) (maxL : Nat) (ret : Option FieldType) (rm : Room) (G : GE) (vs : List Value) (h : PH) (v : Option Value) (h' : PH) : Prop :=
  Met l y (.code y bytes maxL ret :: W0) rm (va_Pc vs (fun U => Hd G h U.heap ∧ EvG G U)) (Qv G v h') rm.cells rm.slots (gA G)
abbrev Fq (G : GE) (v : Option Value) (h' : PH) (below : List Frame) (args : Array Value) (s : State) (mc ms : Nat) : State → Prop := MQ below (Qv G v h') args s mc ms (gA G)
theorem Ct.of {l : Launch} {y : MethodName} {bytes : ByteArray} {maxL : Nat} {ret : Option FieldType} {rm : Room} {G : GE} {vs : List Value} {h : PH} {v : Option Value} {h' : PH} (hy : plainFor y = true) (hvs : (lg_sl vs).length ≤ maxL)
    (body : ∀ (p : Program) (e : Env) (s : State) (m : MethodId) (args : Array Value) (below : List Frame) (meth : Method) (c : Code) (ls : Array Slot), Cx G p s m args meth c bytes maxL y.cls y.name ret → Hx G s h s.heap [] → lv_has ls maxL (lv_args 0 vs) →
      W p l e rm s m args below meth c s.heap [] 0 0 (Fq G v h' below args s rm.cells rm.slots) (F0 m 0 ls [])) : Ct l y bytes maxL ret rm G vs h v h' := by
  refine va_MetF (cc := bytes) (maxL := maxL) (ret := ret) hy rfl ?_
  intro p e s m args below meth c s₁ B hml hv
  obtain ⟨rfl, hH, hE⟩ := hv
  have hts := atoms_spec (ws := .code y bytes maxL ret :: W0) B.pre
  have hl := lv_entry vs (n := maxL) hvs
  rw [lg_entry_eq]
  exact body p e s m _ below meth c _ ⟨B.exec, B.bytes, hml, findClass_of_methodNamed B.named, fun w hw => hts w (List.mem_cons_of_mem _ hw), hE, B.notSynchronized, (name_of_methodNamed B.named B.method).1, B.returns, by rw [hH.1]; exact hH.2.1, hH.2.2.1⟩ ⟨hH, Nat.le_refl _, fun z hz => by cases hz⟩ hl
def LK (own : String) (index : Nat) (y : MethodName) : Prop := Cond.methodLink own index y ∈ W0 ∨ ∃ host, Cond.methodLinkNest own index y host ∈ NW
/-- what the tables say of a method that is called -/
def MB (y : MethodName) (bytes : ByteArray) (maxL : Nat) (ret : Option FieldType) (n : Nat) : Prop := Cond.code y bytes maxL ret ∈ W0 ∧ Cond.initialized y.cls ∈ W0 ∧ (y.cls ≠ "java/lang/invoke/MethodHandle" ∧ y.cls ≠ "java/lang/invoke/VarHandle" ∧ (parseMethodDescriptor y.desc).map (fun d => d.parameters.length) = some n)
def MV (y : MethodName) (bytes : ByteArray) (maxL : Nat) (ret : Option FieldType) (n : Nat) : Prop := MB y bytes maxL ret n ∧ Cond.instanceMethod y ∈ W0 ∧ Cond.selects y.cls y y ∈ W0
def MS (y : MethodName) (bytes : ByteArray) (maxL : Nat) (ret : Option FieldType) (n : Nat) : Prop := MB y bytes maxL ret n ∧ Cond.static y ∈ W0
def MI (y : MethodName) (bytes : ByteArray) (maxL : Nat) (n : Nat) : Prop := MB y bytes maxL none n ∧ Cond.instanceMethod y ∈ W0 ∧ y.name = "<init>"
theorem mb_good {y : MethodName} {bytes : ByteArray} {maxL : Nat} {ret : Option FieldType} {n : Nat} (h : MB y bytes maxL ret n) : GoodIn W0 (.code y bytes maxL ret :: W0) := fun w hw => by
  rcases List.mem_cons.mp hw with rfl | hw
  · exact w0_good _ h.1
  · exact w0_good _ hw
section PRC
variable {G : GE} {p : Program} {l : Launch} {e : Env} {R : Room} {s : State} {m : MethodId} {args : Array Value} {below : List Frame} {meth : Method} {c : Code} {H : Heap} {locs : List Loc} {cells slots : Nat} {Q : State → Prop}
variable {cc : ByteArray} {nL : Nat} {own nm : String} {ret : Option FieldType} {pc : Nat} {ls : Array Slot} {st rest : List Value} {h h' : PH} {β : Type} {Rr : β}
variable {y : MethodName} {bytes : ByteArray} {maxL index : Nat} {rt : Option FieldType} {rm : Room} {b : Nat} {As : List Value} {v : Option Value}
theorem ct_blind {vs : List Value} : FrameBlind (va_Pc vs (fun U => Hd G h U.heap ∧ EvG G U)) := fun a U g mk q => ⟨q.1, q.2.1, EvG.same (u := U) (U := U.calling g mk a) rfl q.2.2⟩
theorem p_after {a : Array Value} {mc ms : Nat} (hH : Hx G s h H locs) (hr : va_Run p l e R s m args below meth c H locs cells slots mc ms (F0 m pc ls st) rest (Qv G v h' a) (gA G))
    (kk : ∀ (H' : Heap) (locs' : List Loc), Hx G s h' H' locs' → W p l e R s m args below meth c H' locs' (cells + mc) (slots + ms) Q (F0 m (pc + 3) ls (v.toList ++ rest))) : W p l e R s m args below meth c H locs cells slots Q (F0 m pc ls st) := by
  intro T hT X
  obtain ⟨v', st₀, t, T', L, h0, X', hL, e1, e2, ⟨hv, hd⟩, go⟩ := hr T hT X
  cases hv
  obtain ⟨t2, a1, b1⟩ := kk T'.heap (locs ++ L) ⟨by rw [e1]; exact hd, X'.same.2.1, fun z hz => by
    rcases List.mem_append.mp hz with h1 | h1
    · exact hH.2.2 z h1
    · exact hL z h1⟩ T' rfl X'
  exact ⟨t2, go t2 a1, b1⟩
theorem p_cV (X : Cx G p s m args meth c cc nL own nm ret) (hH : Hx G s h H locs) (hM : Ct l y bytes maxL rt rm G (.ref b :: As) h v h') (hm : MV y bytes maxL rt As.length) (hk : LK own index y) {ci N : Nat} {T : u_T} (hci : vwCl[ci]? = some (y.cls, T, N)) {u : Unit} (hr : isC ci h b = some u)
    (hR : rm.frames + 1 ≤ R.frames ∧ 8 + (maxL + 11) + rm.locals ≤ R.locals) (hst : st = As.reverse ++ .ref b :: rest) (hls : ls.size = nL) (hW : (rest.map fun v => v.category).sum ≤ 8) (hdg : decode cc pc = .ok (.invokevirtual index, 3)) {c2 s2 : Nat} (hf : cells + rm.cells ≤ c2 ∧ c2 ≤ R.cells ∧ slots + rm.slots ≤ s2 ∧ s2 ≤ R.slots)
    (kk : ∀ (H' : Heap) (locs' : List Loc), Hx G s h' H' locs' → W p l e R s m args below meth c H' locs' c2 s2 Q (F0 m (pc + 3) ls (v.toList ++ rest))) : W p l e R s m args below meth c H locs cells slots Q (F0 m pc ls st) := by
  obtain ⟨hx, hb, hml, hown, hts, hE, -⟩ := id X
  obtain ⟨fs, hq⟩ := isC_spec hr
  obtain ⟨hmb, hin, hse⟩ := hm
  have hpre : PreV s H y.cls b (va_Pc (.ref b :: As) (fun U => Hd G h U.heap ∧ EvG G U)) As := ⟨ct_blind, va_recv hE.1 (hH.1.P1 hq) (q0 := 0) (ci := ci) (fs := fs) hci rfl, fun U hU hWm => ⟨rfl, by rw [hU]; exact hH.1, EvG.warm hWm hE⟩⟩
  rcases hk with hk | ⟨host, hk⟩
  · exact p_after hH (va_runV (C := y.cls) (rm := rm) ⟨hx, hb, hml, hown, hts⟩ hM ⟨callB_of As.length hts (mb_good hmb) rfl rfl rfl (hts _ hmb.2.1) (hts _ hk) hmb.2.2 hR, hts _ hin, hts _ hse⟩ hpre rfl rfl hls hst (lv_room hW) hdg ⟨Nat.le_trans hf.1 hf.2.1, Nat.le_trans hf.2.2.1 hf.2.2.2⟩) (fun H' l' q => W.widen hf.1 hf.2.2.1 (kk H' l' q))
  · exact p_after hH (va_runVN (C := y.cls) (rm := rm) ⟨hx, hb, hml, hown, hts⟩ hM ⟨va_cnB As.length hts (mb_good hmb) rfl rfl rfl (hE.2.2.2.1 _ hk) (hts _ hmb.2.1) hmb.2.2 hR, hts _ hin, hts _ hse⟩ hpre rfl rfl hls hst (lv_room hW) hdg ⟨Nat.le_trans hf.1 hf.2.1, Nat.le_trans hf.2.2.1 hf.2.2.2⟩) (fun H' l' q => W.widen hf.1 hf.2.2.1 (kk H' l' q))
theorem p_cS (X : Cx G p s m args meth c cc nL own nm ret) (hH : Hx G s h H locs) (hM : Ct l y bytes maxL rt rm G As h v h') (hm : MS y bytes maxL rt As.length) (hk : LK own index y)
    (hR : rm.frames + 1 ≤ R.frames ∧ 8 + (maxL + 11) + rm.locals ≤ R.locals) (hst : st = As.reverse ++ rest) (hls : ls.size = nL) (hW : (rest.map fun v => v.category).sum ≤ 8) (hdg : decode cc pc = .ok (.invokestatic index, 3)) {c2 s2 : Nat} (hf : cells + rm.cells ≤ c2 ∧ c2 ≤ R.cells ∧ slots + rm.slots ≤ s2 ∧ s2 ≤ R.slots)
    (kk : ∀ (H' : Heap) (locs' : List Loc), Hx G s h' H' locs' → W p l e R s m args below meth c H' locs' c2 s2 Q (F0 m (pc + 3) ls (v.toList ++ rest))) : W p l e R s m args below meth c H locs cells slots Q (F0 m pc ls st) := by
  obtain ⟨hx, hb, hml, hown, hts, hE, -⟩ := id X
  obtain ⟨hmb, hstt⟩ := hm
  have hpre : PreS s H (va_Pc As (fun U => Hd G h U.heap ∧ EvG G U)) As := ⟨ct_blind, fun U hU hWm => ⟨rfl, by rw [hU]; exact hH.1, EvG.warm hWm hE⟩⟩
  rcases hk with hk | ⟨host, hk⟩
  · exact p_after hH (va_runS (rm := rm) ⟨hx, hb, hml, hown, hts⟩ hM ⟨callB_of As.length hts (mb_good hmb) rfl rfl rfl (hts _ hmb.2.1) (hts _ hk) hmb.2.2 hR, hts _ hstt⟩ hpre rfl rfl hls hst (lv_room hW) hdg ⟨Nat.le_trans hf.1 hf.2.1, Nat.le_trans hf.2.2.1 hf.2.2.2⟩) (fun H' l' q => W.widen hf.1 hf.2.2.1 (kk H' l' q))
  · exact p_after hH (va_runSN (rm := rm) ⟨hx, hb, hml, hown, hts⟩ hM ⟨va_cnB As.length hts (mb_good hmb) rfl rfl rfl (hE.2.2.2.1 _ hk) (hts _ hmb.2.1) hmb.2.2 hR, hts _ hstt, trivial⟩ hpre rfl rfl hls hst (lv_room hW) hdg ⟨Nat.le_trans hf.1 hf.2.1, Nat.le_trans hf.2.2.1 hf.2.2.2⟩) (fun H' l' q => W.widen hf.1 hf.2.2.1 (kk H' l' q))
theorem p_cI (X : Cx G p s m args meth c cc nL own nm ret) (hH : Hx G s h H locs) (hM : Ct l y bytes maxL none rm G (.ref b :: As) h v h') (hm : MI y bytes maxL As.length) (hk : LK own index y)
    (hR : rm.frames + 1 ≤ R.frames ∧ 8 + (maxL + 11) + rm.locals ≤ R.locals) (hst : st = As.reverse ++ .ref b :: rest) (hls : ls.size = nL) (hW : (rest.map fun v => v.category).sum ≤ 8) (hdg : decode cc pc = .ok (.invokespecial index, 3)) {c2 s2 : Nat} (hf : cells + rm.cells ≤ c2 ∧ c2 ≤ R.cells ∧ slots + rm.slots ≤ s2 ∧ s2 ≤ R.slots)
    (kk : ∀ (H' : Heap) (locs' : List Loc), Hx G s h' H' locs' → W p l e R s m args below meth c H' locs' c2 s2 Q (F0 m (pc + 3) ls (v.toList ++ rest))) : W p l e R s m args below meth c H locs cells slots Q (F0 m pc ls st) := by
  obtain ⟨hx, hb, hml, hown, hts, hE, -⟩ := id X
  obtain ⟨hmb, hin, hy1⟩ := hm
  have hpre : PreS s H (va_Pc (.ref b :: As) (fun U => Hd G h U.heap ∧ EvG G U)) (.ref b :: As) := ⟨ct_blind, fun U hU hWm => ⟨rfl, by rw [hU]; exact hH.1, EvG.warm hWm hE⟩⟩
  rcases hk with hk | ⟨host, hk⟩
  · exact p_after hH (va_runI (rm := rm) ⟨hx, hb, hml, hown, hts⟩ hM ⟨callB_of As.length hts (mb_good hmb) rfl rfl rfl (hts _ hmb.2.1) (hts _ hk) hmb.2.2 hR, hy1, hts _ hin⟩ hpre rfl rfl hls hst (lv_room hW) hdg ⟨Nat.le_trans hf.1 hf.2.1, Nat.le_trans hf.2.2.1 hf.2.2.2⟩) (fun H' l' q => W.widen hf.1 hf.2.2.1 (kk H' l' q))
  · exact p_after hH (va_runIN (rm := rm) ⟨hx, hb, hml, hown, hts⟩ hM ⟨va_cnB As.length hts (mb_good hmb) rfl rfl rfl (hE.2.2.2.1 _ hk) (hts _ hmb.2.1) hmb.2.2 hR, hy1, hts _ hin⟩ hpre rfl rfl hls hst (lv_room hW) hdg ⟨Nat.le_trans hf.1 hf.2.1, Nat.le_trans hf.2.2.1 hf.2.2.2⟩) (fun H' l' q => W.widen hf.1 hf.2.2.1 (kk H' l' q))
theorem p_cVI (X : Cx G p s m args meth c cc nL own nm ret) (hH : Hx G s h H locs) {ci N : Nat} {T : u_T} (hci : vwCl[ci]? = some (y.cls, T, N)) {o : Option (Int32 × PH)} {F : Int32 → PH → Option β} (hf : rd (isC ci h b) (fun _ => bd o F) = some Rr) (hM : ∀ r h', o = some (r, h') → Ct l y bytes maxL rt rm G (.ref b :: As) h (some (.int r)) h') (hm : MV y bytes maxL rt As.length) (hk : LK own index y)
    (hR : rm.frames + 1 ≤ R.frames ∧ 8 + (maxL + 11) + rm.locals ≤ R.locals) (hst : st = As.reverse ++ .ref b :: rest) (hls : ls.size = nL) (hW : (rest.map fun v => v.category).sum ≤ 8) (hdg : decode cc pc = .ok (.invokevirtual index, 3)) {c2 s2 : Nat} (hcs : cells + rm.cells ≤ c2 ∧ c2 ≤ R.cells ∧ slots + rm.slots ≤ s2 ∧ s2 ≤ R.slots)
    (kk : ∀ (r : Int32) (h' : PH) (H' : Heap) (locs' : List Loc), Hx G s h' H' locs' → F r h' = some Rr → W p l e R s m args below meth c H' locs' c2 s2 Q (F0 m (pc + 3) ls (.int r :: rest))) : W p l e R s m args below meth c H locs cells slots Q (F0 m pc ls st) := by
  obtain ⟨u, hu, hf⟩ := rd_some hf
  obtain ⟨r, h2, ho, hF⟩ := bd_some hf
  exact p_cV X hH (hM r h2 ho) hm hk hci hu hR hst hls hW hdg hcs (fun H' l' q => kk r h2 H' l' q hF)
theorem p_cSI (X : Cx G p s m args meth c cc nL own nm ret) (hH : Hx G s h H locs) {o : Option (Int32 × PH)} {F : Int32 → PH → Option β} (hf : bd o F = some Rr) (hM : ∀ r h', o = some (r, h') → Ct l y bytes maxL rt rm G As h (some (.int r)) h') (hm : MS y bytes maxL rt As.length) (hk : LK own index y)
    (hR : rm.frames + 1 ≤ R.frames ∧ 8 + (maxL + 11) + rm.locals ≤ R.locals) (hst : st = As.reverse ++ rest) (hls : ls.size = nL) (hW : (rest.map fun v => v.category).sum ≤ 8) (hdg : decode cc pc = .ok (.invokestatic index, 3)) {c2 s2 : Nat} (hcs : cells + rm.cells ≤ c2 ∧ c2 ≤ R.cells ∧ slots + rm.slots ≤ s2 ∧ s2 ≤ R.slots)
    (kk : ∀ (r : Int32) (h' : PH) (H' : Heap) (locs' : List Loc), Hx G s h' H' locs' → F r h' = some Rr → W p l e R s m args below meth c H' locs' c2 s2 Q (F0 m (pc + 3) ls (.int r :: rest))) : W p l e R s m args below meth c H locs cells slots Q (F0 m pc ls st) := by
  obtain ⟨r, h2, ho, hF⟩ := bd_some hf
  exact p_cS X hH (hM r h2 ho) hm hk hR hst hls hW hdg hcs (fun H' l' q => kk r h2 H' l' q hF)
theorem p_cVJ (X : Cx G p s m args meth c cc nL own nm ret) (hH : Hx G s h H locs) {ci N : Nat} {T : u_T} (hci : vwCl[ci]? = some (y.cls, T, N)) {o : Option (Int64 × PH)} {F : Int64 → PH → Option β} (hf : rd (isC ci h b) (fun _ => bd o F) = some Rr) (hM : ∀ r h', o = some (r, h') → Ct l y bytes maxL rt rm G (.ref b :: As) h (some (.long r)) h') (hm : MV y bytes maxL rt As.length) (hk : LK own index y)
    (hR : rm.frames + 1 ≤ R.frames ∧ 8 + (maxL + 11) + rm.locals ≤ R.locals) (hst : st = As.reverse ++ .ref b :: rest) (hls : ls.size = nL) (hW : (rest.map fun v => v.category).sum ≤ 8) (hdg : decode cc pc = .ok (.invokevirtual index, 3)) {c2 s2 : Nat} (hcs : cells + rm.cells ≤ c2 ∧ c2 ≤ R.cells ∧ slots + rm.slots ≤ s2 ∧ s2 ≤ R.slots)
    (kk : ∀ (r : Int64) (h' : PH) (H' : Heap) (locs' : List Loc), Hx G s h' H' locs' → F r h' = some Rr → W p l e R s m args below meth c H' locs' c2 s2 Q (F0 m (pc + 3) ls (.long r :: rest))) : W p l e R s m args below meth c H locs cells slots Q (F0 m pc ls st) := by
  obtain ⟨u, hu, hf⟩ := rd_some hf
  obtain ⟨r, h2, ho, hF⟩ := bd_some hf
  exact p_cV X hH (hM r h2 ho) hm hk hci hu hR hst hls hW hdg hcs (fun H' l' q => kk r h2 H' l' q hF)
theorem p_cSJ (X : Cx G p s m args meth c cc nL own nm ret) (hH : Hx G s h H locs) {o : Option (Int64 × PH)} {F : Int64 → PH → Option β} (hf : bd o F = some Rr) (hM : ∀ r h', o = some (r, h') → Ct l y bytes maxL rt rm G As h (some (.long r)) h') (hm : MS y bytes maxL rt As.length) (hk : LK own index y)
    (hR : rm.frames + 1 ≤ R.frames ∧ 8 + (maxL + 11) + rm.locals ≤ R.locals) (hst : st = As.reverse ++ rest) (hls : ls.size = nL) (hW : (rest.map fun v => v.category).sum ≤ 8) (hdg : decode cc pc = .ok (.invokestatic index, 3)) {c2 s2 : Nat} (hcs : cells + rm.cells ≤ c2 ∧ c2 ≤ R.cells ∧ slots + rm.slots ≤ s2 ∧ s2 ≤ R.slots)
    (kk : ∀ (r : Int64) (h' : PH) (H' : Heap) (locs' : List Loc), Hx G s h' H' locs' → F r h' = some Rr → W p l e R s m args below meth c H' locs' c2 s2 Q (F0 m (pc + 3) ls (.long r :: rest))) : W p l e R s m args below meth c H locs cells slots Q (F0 m pc ls st) := by
  obtain ⟨r, h2, ho, hF⟩ := bd_some hf
  exact p_cS X hH (hM r h2 ho) hm hk hR hst hls hW hdg hcs (fun H' l' q => kk r h2 H' l' q hF)
theorem p_cVD (X : Cx G p s m args meth c cc nL own nm ret) (hH : Hx G s h H locs) {ci N : Nat} {T : u_T} (hci : vwCl[ci]? = some (y.cls, T, N)) {o : Option (UInt64 × PH)} {F : UInt64 → PH → Option β} (hf : rd (isC ci h b) (fun _ => bd o F) = some Rr) (hM : ∀ r h', o = some (r, h') → Ct l y bytes maxL rt rm G (.ref b :: As) h (some (.double r)) h') (hm : MV y bytes maxL rt As.length) (hk : LK own index y)
    (hR : rm.frames + 1 ≤ R.frames ∧ 8 + (maxL + 11) + rm.locals ≤ R.locals) (hst : st = As.reverse ++ .ref b :: rest) (hls : ls.size = nL) (hW : (rest.map fun v => v.category).sum ≤ 8) (hdg : decode cc pc = .ok (.invokevirtual index, 3)) {c2 s2 : Nat} (hcs : cells + rm.cells ≤ c2 ∧ c2 ≤ R.cells ∧ slots + rm.slots ≤ s2 ∧ s2 ≤ R.slots)
    (kk : ∀ (r : UInt64) (h' : PH) (H' : Heap) (locs' : List Loc), Hx G s h' H' locs' → F r h' = some Rr → W p l e R s m args below meth c H' locs' c2 s2 Q (F0 m (pc + 3) ls (.double r :: rest))) : W p l e R s m args below meth c H locs cells slots Q (F0 m pc ls st) := by
  obtain ⟨u, hu, hf⟩ := rd_some hf
  obtain ⟨r, h2, ho, hF⟩ := bd_some hf
  exact p_cV X hH (hM r h2 ho) hm hk hci hu hR hst hls hW hdg hcs (fun H' l' q => kk r h2 H' l' q hF)
theorem p_cSD (X : Cx G p s m args meth c cc nL own nm ret) (hH : Hx G s h H locs) {o : Option (UInt64 × PH)} {F : UInt64 → PH → Option β} (hf : bd o F = some Rr) (hM : ∀ r h', o = some (r, h') → Ct l y bytes maxL rt rm G As h (some (.double r)) h') (hm : MS y bytes maxL rt As.length) (hk : LK own index y)
    (hR : rm.frames + 1 ≤ R.frames ∧ 8 + (maxL + 11) + rm.locals ≤ R.locals) (hst : st = As.reverse ++ rest) (hls : ls.size = nL) (hW : (rest.map fun v => v.category).sum ≤ 8) (hdg : decode cc pc = .ok (.invokestatic index, 3)) {c2 s2 : Nat} (hcs : cells + rm.cells ≤ c2 ∧ c2 ≤ R.cells ∧ slots + rm.slots ≤ s2 ∧ s2 ≤ R.slots)
    (kk : ∀ (r : UInt64) (h' : PH) (H' : Heap) (locs' : List Loc), Hx G s h' H' locs' → F r h' = some Rr → W p l e R s m args below meth c H' locs' c2 s2 Q (F0 m (pc + 3) ls (.double r :: rest))) : W p l e R s m args below meth c H locs cells slots Q (F0 m pc ls st) := by
  obtain ⟨r, h2, ho, hF⟩ := bd_some hf
  exact p_cS X hH (hM r h2 ho) hm hk hR hst hls hW hdg hcs (fun H' l' q => kk r h2 H' l' q hF)
theorem p_cVR (X : Cx G p s m args meth c cc nL own nm ret) (hH : Hx G s h H locs) {ci N : Nat} {T : u_T} (hci : vwCl[ci]? = some (y.cls, T, N)) {o : Option (Nat × PH)} {F : Nat → PH → Option β} (hf : rd (isC ci h b) (fun _ => bd o F) = some Rr) (hM : ∀ r h', o = some (r, h') → Ct l y bytes maxL rt rm G (.ref b :: As) h (some (.ref r)) h') (hm : MV y bytes maxL rt As.length) (hk : LK own index y)
    (hR : rm.frames + 1 ≤ R.frames ∧ 8 + (maxL + 11) + rm.locals ≤ R.locals) (hst : st = As.reverse ++ .ref b :: rest) (hls : ls.size = nL) (hW : (rest.map fun v => v.category).sum ≤ 8) (hdg : decode cc pc = .ok (.invokevirtual index, 3)) {c2 s2 : Nat} (hcs : cells + rm.cells ≤ c2 ∧ c2 ≤ R.cells ∧ slots + rm.slots ≤ s2 ∧ s2 ≤ R.slots)
    (kk : ∀ (r : Nat) (h' : PH) (H' : Heap) (locs' : List Loc), Hx G s h' H' locs' → F r h' = some Rr → W p l e R s m args below meth c H' locs' c2 s2 Q (F0 m (pc + 3) ls (.ref r :: rest))) : W p l e R s m args below meth c H locs cells slots Q (F0 m pc ls st) := by
  obtain ⟨u, hu, hf⟩ := rd_some hf
  obtain ⟨r, h2, ho, hF⟩ := bd_some hf
  exact p_cV X hH (hM r h2 ho) hm hk hci hu hR hst hls hW hdg hcs (fun H' l' q => kk r h2 H' l' q hF)
theorem p_cSR (X : Cx G p s m args meth c cc nL own nm ret) (hH : Hx G s h H locs) {o : Option (Nat × PH)} {F : Nat → PH → Option β} (hf : bd o F = some Rr) (hM : ∀ r h', o = some (r, h') → Ct l y bytes maxL rt rm G As h (some (.ref r)) h') (hm : MS y bytes maxL rt As.length) (hk : LK own index y)
    (hR : rm.frames + 1 ≤ R.frames ∧ 8 + (maxL + 11) + rm.locals ≤ R.locals) (hst : st = As.reverse ++ rest) (hls : ls.size = nL) (hW : (rest.map fun v => v.category).sum ≤ 8) (hdg : decode cc pc = .ok (.invokestatic index, 3)) {c2 s2 : Nat} (hcs : cells + rm.cells ≤ c2 ∧ c2 ≤ R.cells ∧ slots + rm.slots ≤ s2 ∧ s2 ≤ R.slots)
    (kk : ∀ (r : Nat) (h' : PH) (H' : Heap) (locs' : List Loc), Hx G s h' H' locs' → F r h' = some Rr → W p l e R s m args below meth c H' locs' c2 s2 Q (F0 m (pc + 3) ls (.ref r :: rest))) : W p l e R s m args below meth c H locs cells slots Q (F0 m pc ls st) := by
  obtain ⟨r, h2, ho, hF⟩ := bd_some hf
  exact p_cS X hH (hM r h2 ho) hm hk hR hst hls hW hdg hcs (fun H' l' q => kk r h2 H' l' q hF)
theorem p_cVV (X : Cx G p s m args meth c cc nL own nm ret) (hH : Hx G s h H locs) {ci N : Nat} {T : u_T} (hci : vwCl[ci]? = some (y.cls, T, N)) {o : Option (Unit × PH)} {F : Unit → PH → Option β} (hf : rd (isC ci h b) (fun _ => bd o F) = some Rr) (hM : ∀ r h', o = some (r, h') → Ct l y bytes maxL rt rm G (.ref b :: As) h none h') (hm : MV y bytes maxL rt As.length) (hk : LK own index y)
    (hR : rm.frames + 1 ≤ R.frames ∧ 8 + (maxL + 11) + rm.locals ≤ R.locals) (hst : st = As.reverse ++ .ref b :: rest) (hls : ls.size = nL) (hW : (rest.map fun v => v.category).sum ≤ 8) (hdg : decode cc pc = .ok (.invokevirtual index, 3)) {c2 s2 : Nat} (hcs : cells + rm.cells ≤ c2 ∧ c2 ≤ R.cells ∧ slots + rm.slots ≤ s2 ∧ s2 ≤ R.slots)
    (kk : ∀ (r : Unit) (h' : PH) (H' : Heap) (locs' : List Loc), Hx G s h' H' locs' → F r h' = some Rr → W p l e R s m args below meth c H' locs' c2 s2 Q (F0 m (pc + 3) ls rest)) : W p l e R s m args below meth c H locs cells slots Q (F0 m pc ls st) := by
  obtain ⟨u, hu, hf⟩ := rd_some hf
  obtain ⟨r, h2, ho, hF⟩ := bd_some hf
  exact p_cV X hH (hM r h2 ho) hm hk hci hu hR hst hls hW hdg hcs (fun H' l' q => kk r h2 H' l' q hF)
theorem p_cSV (X : Cx G p s m args meth c cc nL own nm ret) (hH : Hx G s h H locs) {o : Option (Unit × PH)} {F : Unit → PH → Option β} (hf : bd o F = some Rr) (hM : ∀ r h', o = some (r, h') → Ct l y bytes maxL rt rm G As h none h') (hm : MS y bytes maxL rt As.length) (hk : LK own index y)
    (hR : rm.frames + 1 ≤ R.frames ∧ 8 + (maxL + 11) + rm.locals ≤ R.locals) (hst : st = As.reverse ++ rest) (hls : ls.size = nL) (hW : (rest.map fun v => v.category).sum ≤ 8) (hdg : decode cc pc = .ok (.invokestatic index, 3)) {c2 s2 : Nat} (hcs : cells + rm.cells ≤ c2 ∧ c2 ≤ R.cells ∧ slots + rm.slots ≤ s2 ∧ s2 ≤ R.slots)
    (kk : ∀ (r : Unit) (h' : PH) (H' : Heap) (locs' : List Loc), Hx G s h' H' locs' → F r h' = some Rr → W p l e R s m args below meth c H' locs' c2 s2 Q (F0 m (pc + 3) ls rest)) : W p l e R s m args below meth c H locs cells slots Q (F0 m pc ls st) := by
  obtain ⟨r, h2, ho, hF⟩ := bd_some hf
  exact p_cS X hH (hM r h2 ho) hm hk hR hst hls hW hdg hcs (fun H' l' q => kk r h2 H' l' q hF)
theorem p_cIV (X : Cx G p s m args meth c cc nL own nm ret) (hH : Hx G s h H locs) {o : Option (Unit × PH)} {F : Unit → PH → Option β} (hf : bd o F = some Rr) (hM : ∀ r h', o = some (r, h') → Ct l y bytes maxL none rm G (.ref b :: As) h none h') (hm : MI y bytes maxL As.length) (hk : LK own index y)
    (hR : rm.frames + 1 ≤ R.frames ∧ 8 + (maxL + 11) + rm.locals ≤ R.locals) (hst : st = As.reverse ++ .ref b :: rest) (hls : ls.size = nL) (hW : (rest.map fun v => v.category).sum ≤ 8) (hdg : decode cc pc = .ok (.invokespecial index, 3)) {c2 s2 : Nat} (hcs : cells + rm.cells ≤ c2 ∧ c2 ≤ R.cells ∧ slots + rm.slots ≤ s2 ∧ s2 ≤ R.slots)
    (kk : ∀ (r : Unit) (h' : PH) (H' : Heap) (locs' : List Loc), Hx G s h' H' locs' → F r h' = some Rr → W p l e R s m args below meth c H' locs' c2 s2 Q (F0 m (pc + 3) ls rest)) : W p l e R s m args below meth c H locs cells slots Q (F0 m pc ls st) := by
  obtain ⟨r, h2, ho, hF⟩ := bd_some hf
  exact p_cI X hH (hM r h2 ho) hm hk hR hst hls hW hdg hcs (fun H' l' q => kk r h2 H' l' q hF)
theorem p_putZ (X : Cx G p s m args meth c cc nL own nm ret) (hH : Hx G s h H locs) {index ci k : Nat} (hF : FP own nm index ci k .boolean) {q : Nat} {x : Int32} {F : PH → Option β} (hf : z1 x (rd (sF ci h q k (.int x)) F) = some Rr) (hdg : decode cc pc = .ok (.putfield index, 3))
    (kk : ∀ (h' : PH) (H' : Heap) (locs' : List Loc), Hx G s h' H' locs' → F h' = some Rr → W p l e R s m args below meth c H' locs' cells slots Q (F0 m (pc + 3) ls rest)) : W p l e R s m args below meth c H locs cells slots Q (F0 m pc ls (.int x :: .ref q :: rest)) := by
  obtain ⟨h01, hf⟩ := z1_some hf
  rcases h01 with rfl | rfl <;> exact p_put X hH hF rfl rfl hf hdg kk
theorem p_oinit (X : Cx G p s m args meth c cc nL own nm ret) (hk : Cond.methodLink own index objectInit ∈ W0) (hin : Cond.instanceMethod objectInit ∈ W0) (hco : Cond.code objectInit ⟨#[0xb1]⟩ 1 none ∈ W0) (hls : ls.size = nL) (hdg : decode cc pc = .ok (.invokespecial index, 3)) (hf : 1 ≤ R.frames) (hl : (rest.map fun v => v.category).sum + 12 ≤ R.locals)
    (kk : W p l e R s m args below meth c H locs cells slots Q (F0 m (pc + 3) ls rest)) : W p l e R s m args below meth c H locs cells slots Q (F0 m pc ls (.ref b :: rest)) := by
  obtain ⟨hx, hb, hml, hown, hts, hE, -⟩ := id X
  exact W.objInit hx hb hown (hts _ hk) (hts _ hin) (hts _ hco) rfl (by rw [hml]; exact hls) rfl hdg hf (by show 2 * 0 + _ + _ ≤ _; omega) kk
/-! ends -/
theorem p_iret (X : Cx G p s m args meth c cc nL own nm (some .int)) (hH : Hx G s h H locs) {r x : Int32} {mc ms : Nat} (hf : some (x, h) = some (r, h')) (hc : cells ≤ mc) (hs : slots ≤ ms) (hdg : decode cc pc = .ok (.ireturn, 1)) : W p l e R s m args below meth c H locs cells slots (Fq G (some (.int r)) h' below args s mc ms) (F0 m pc ls [.int x]) := by
  cases hf
  obtain ⟨hx, hb, -, -, -, -, hlocks, -, hr, -⟩ := X
  refine W.widen hc hs ?_
  exact W.iret hx hb hr (fun t ht _ => ⟨rfl, by rw [ht]; exact hH.1⟩) hH.2.2 hdg hlocks
theorem p_zret (X : Cx G p s m args meth c cc nL own nm (some .boolean)) (hH : Hx G s h H locs) {r x : Int32} {mc ms : Nat} (hf : z1 x (some (x, h)) = some (r, h')) (hc : cells ≤ mc) (hs : slots ≤ ms) (hdg : decode cc pc = .ok (.ireturn, 1)) : W p l e R s m args below meth c H locs cells slots (Fq G (some (.int r)) h' below args s mc ms) (F0 m pc ls [.int x]) := by
  obtain ⟨h01, hf⟩ := z1_some hf
  cases hf
  obtain ⟨hx, hb, -, -, -, -, hlocks, -, hr, -⟩ := X
  refine W.widen hc hs ?_
  exact W.zret hx hb hr (by rcases h01 with rfl | rfl <;> rfl) (fun t ht _ => ⟨rfl, by rw [ht]; exact hH.1⟩) hH.2.2 hdg hlocks
theorem p_lret (X : Cx G p s m args meth c cc nL own nm (some .long)) (hH : Hx G s h H locs) {r x : Int64} {mc ms : Nat} (hf : some (x, h) = some (r, h')) (hc : cells ≤ mc) (hs : slots ≤ ms) (hdg : decode cc pc = .ok (.lreturn, 1)) : W p l e R s m args below meth c H locs cells slots (Fq G (some (.long r)) h' below args s mc ms) (F0 m pc ls [.long x]) := by
  cases hf
  obtain ⟨hx, hb, -, -, -, -, hlocks, -, hr, -⟩ := X
  refine W.widen hc hs ?_
  exact W.lret hx hb hr (fun t ht _ => ⟨rfl, by rw [ht]; exact hH.1⟩) hH.2.2 hdg hlocks
theorem p_dret (X : Cx G p s m args meth c cc nL own nm (some .double)) (hH : Hx G s h H locs) {r x : UInt64} {mc ms : Nat} (hf : some (x, h) = some (r, h')) (hc : cells ≤ mc) (hs : slots ≤ ms) (hdg : decode cc pc = .ok (.dreturn, 1)) : W p l e R s m args below meth c H locs cells slots (Fq G (some (.double r)) h' below args s mc ms) (F0 m pc ls [.double x]) := by
  cases hf
  obtain ⟨hx, hb, -, -, -, -, hlocks, -, hr, -⟩ := X
  refine W.widen hc hs ?_
  exact W.dret hx hb hr (fun t ht _ => ⟨rfl, by rw [ht]; exact hH.1⟩) hH.2.2 hdg hlocks
theorem p_aret {rtt : FieldType} (X : Cx G p s m args meth c cc nL own nm (some rtt)) (hrt : (∃ n, rtt = .object n) ∨ ∃ t, rtt = .array t) (hH : Hx G s h H locs) {r x : Nat} {mc ms : Nat} (hf : some (x, h) = some (r, h')) (hc : cells ≤ mc) (hs : slots ≤ ms) (hdg : decode cc pc = .ok (.areturn, 1)) : W p l e R s m args below meth c H locs cells slots (Fq G (some (.ref r)) h' below args s mc ms) (F0 m pc ls [.ref x]) := by
  cases hf
  obtain ⟨hx, hb, -, -, -, -, hlocks, -, hr, -⟩ := X
  refine W.widen hc hs ?_
  exact W.aret hx hb hr hrt (Or.inr ⟨_, rfl⟩) (fun t ht _ => ⟨rfl, by rw [ht]; exact hH.1⟩) hH.2.2 hdg hlocks
theorem p_vret (X : Cx G p s m args meth c cc nL own nm none) (hH : Hx G s h H locs) {r x : Unit} {mc ms : Nat} (hf : some (x, h) = some (r, h')) (hc : cells ≤ mc) (hs : slots ≤ ms) (hdg : decode cc pc = .ok (.return_, 1)) : W p l e R s m args below meth c H locs cells slots (Fq G none h' below args s mc ms) (F0 m pc ls []) := by
  cases hf
  obtain ⟨hx, hb, -, -, -, -, hlocks, -, hr, -⟩ := X
  refine W.widen hc hs ?_
  exact W.vret hx hb hr (fun t ht _ => ⟨rfl, by rw [ht]; exact hH.1⟩) hH.2.2 hdg hlocks
end PRC
