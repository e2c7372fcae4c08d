/-! ===== PURE HEAPS: what the cells hold, by address ===== -/
abbrev PC : Type := (Nat × vp_A) ⊕ (Nat × List Value)
abbrev PH : Type := Nat × (Nat → Option PC)
/-- the fixed things of a run: class numbers and slots, array classes, first free address and the heap at the start, the static arrays and the class object -/
abbrev GE : Type := (va_G × (Nat → ClassId)) × (Nat × Heap) × (Nat × Nat × Nat × Nat)
abbrev gD (G : GE) : va_G := G.1.1
abbrev gT (G : GE) : Nat → ClassId := G.1.2
abbrev gB (G : GE) : Nat := G.2.1.1
abbrev gH (G : GE) : Heap := G.2.1.2
abbrev gCS (G : GE) : Nat := G.2.2.1
abbrev gRS (G : GE) : Nat := G.2.2.2.1
abbrev gDE (G : GE) : Nat := G.2.2.2.2.1
abbrev gMI (G : GE) : Nat := G.2.2.2.2.2
abbrev gA (G : GE) : Nat → Prop := fun q => gB G ≤ q
def tysL (G : GE) : List (ClassId × FieldType) := [(gT G 0, .int), (gT G 1, .object "java/lang/Object"), (gT G 2, .boolean), (gT G 3, .long)]
def toE (G : GE) (c : PC) : va_E := match c with
  | .inl (k, a) => .inl (gT G k, a)
  | .inr o => .inr o
/-- the heap holds the pure heap; below the first free address it is the start's -/
def Hd (G : GE) (h : PH) (H : Heap) : Prop := H.size = h.1 ∧ gB G ≤ h.1 ∧ (∀ q : Nat, q < gB G → H[q]? = (gH G)[q]?) ∧ ∀ (q : Nat) (c : PC), h.2 q = some c → va_at (gD G) vwCl (q, toE G c) H ∧ gB G ≤ q
def W0 : List Cond := lw_tbl.filter goodWord
theorem w0_of {w : Cond} (i : Nat) (h : lw_tbl[i]? = some w) (hg : goodWord w = true) : w ∈ W0 := List.mem_filter.mpr ⟨List.mem_of_getElem? h, hg⟩
theorem w0_good : GoodIn W0 W0 := fun w h => ⟨h, good_of_word (List.mem_filter.mp h).2⟩
/-- nest mates' words -/
def nwF : List (String × Nat × String × String × String × String) := [
  ("VaneHouse$Vane", 80, "VaneHouse$Wind", "direction", "I", "VaneHouse"),
  ("VaneHouse", 239, "VaneHouse$Wind", "direction", "I", "VaneHouse"),
  ("VaneHouse$Vane", 59, "VaneHouse$Wind", "strength", "I", "VaneHouse"),
  ("VaneHouse", 284, "VaneHouse$Wind", "rains", "Z", "VaneHouse"),
  ("VaneHouse$Mast", 36, "VaneHouse$Wind", "eighth", "I", "VaneHouse"),
  ("VaneHouse", 95, "VaneHouse$Town", "vanes", "Ljava/util/ArrayList;", "VaneHouse"),
  ("VaneHouse$Town", 36, "VaneHouse$Mast", "column", "I", "VaneHouse"),
  ("VaneHouse$Vane", 34, "VaneHouse$Mast", "column", "I", "VaneHouse"),
  ("VaneHouse$Town", 42, "VaneHouse$Mast", "row", "I", "VaneHouse"),
  ("VaneHouse$Vane", 39, "VaneHouse$Mast", "row", "I", "VaneHouse"),
  ("VaneHouse$Vane", 42, "VaneHouse$Mast", "height", "I", "VaneHouse"),
  ("VaneHouse$Vane", 45, "VaneHouse$Mast", "weight", "I", "VaneHouse"),
  ("VaneHouse$Town", 32, "VaneHouse$Vane", "mast", "LVaneHouse$Mast;", "VaneHouse"),
  ("VaneHouse$Town", 72, "VaneHouse$Vane", "votes", "I", "VaneHouse"),
  ("VaneHouse", 123, "VaneHouse$Vane", "rust", "I", "VaneHouse"),
  ("VaneHouse$Motion", 43, "VaneHouse$Vane", "direction", "I", "VaneHouse"),
  ("VaneHouse$Town", 49, "VaneHouse$Vane", "direction", "I", "VaneHouse"),
  ("VaneHouse", 137, "VaneHouse$Vane", "direction", "I", "VaneHouse"),
  ("VaneHouse", 140, "VaneHouse$Vane", "spin", "I", "VaneHouse"),
  ("VaneHouse", 132, "VaneHouse$Vane", "bound", "I", "VaneHouse"),
  ("VaneHouse$Town", 90, "VaneHouse$Vane", "bound", "I", "VaneHouse"),
  ("VaneHouse", 261, "VaneHouse$Motion", "number", "I", "VaneHouse"),
  ("VaneHouse$Town", 81, "VaneHouse$Motion", "quorum", "I", "VaneHouse"),
  ("VaneHouse$Town", 59, "VaneHouse$Motion", "effect", "I", "VaneHouse"),
  ("VaneHouse", 257, "VaneHouse$AgendaEntry", "motion", "LVaneHouse$Motion;", "VaneHouse"),
  ("VaneHouse", 264, "VaneHouse$AgendaEntry", "hour", "I", "VaneHouse"),
  ("VaneHouseModel", 104, "VaneHouseModel$State", "hour", "I", "VaneHouseModel"),
  ("VaneHouseModel", 42, "VaneHouseModel$State", "winds", "I", "VaneHouseModel"),
  ("VaneHouseModel", 23, "VaneHouseModel$State", "direction", "[I", "VaneHouseModel"),
  ("VaneHouseModel", 27, "VaneHouseModel$State", "strength", "[I", "VaneHouseModel"),
  ("VaneHouseModel", 30, "VaneHouseModel$State", "rains", "[Z", "VaneHouseModel"),
  ("VaneHouseModel", 53, "VaneHouseModel$State", "vanes", "I", "VaneHouseModel"),
  ("VaneHouseModel", 59, "VaneHouseModel$State", "vane", "[I", "VaneHouseModel"),
  ("VaneHouseModel", 95, "VaneHouseModel$State", "motions", "I", "VaneHouseModel"),
  ("VaneHouseModel", 98, "VaneHouseModel$State", "motion", "[I", "VaneHouseModel"),
  ("VaneHouseModel", 107, "VaneHouseModel$State", "entries", "I", "VaneHouseModel"),
  ("VaneHouseModel", 110, "VaneHouseModel$State", "agenda", "[I", "VaneHouseModel"),
  ("VaneHouseModel", 129, "VaneHouseModel$State", "passed", "I", "VaneHouseModel")]
def nwM : List (String × Nat × MethodName × String) := [
  ("VaneHouse", 33, ⟨"VaneHouse$Town", "<init>", "()V"⟩, "VaneHouse"),
  ("VaneHouse$Motion", 46, ⟨"VaneHouse", "distance", "(II)I"⟩, "VaneHouse"),
  ("VaneHouse$Vane", 81, ⟨"VaneHouse", "steps", "(II)I"⟩, "VaneHouse"),
  ("VaneHouseModel", 76, ⟨"VaneHouseModel$State", "set", "(III)V"⟩, "VaneHouseModel"),
  ("VaneHouseModel$State", 80, ⟨"VaneHouseModel", "apart", "(II)I"⟩, "VaneHouseModel"),
  ("VaneHouseModel", 157, ⟨"VaneHouseModel$State", "entry", "()I"⟩, "VaneHouseModel")]
def NW : List Cond := nwF.map (fun x => .fieldLinkNest x.1 x.2.1 x.2.2.1 x.2.2.2.1 x.2.2.2.2.1 x.2.2.2.2.2) ++ nwM.map (fun x => .methodLinkNest x.1 x.2.1 x.2.2.1 x.2.2.2)
/-- words that only the tables decide -/
def owC : List (String × String) := [
  ("java/lang/IllegalArgumentException", "java/lang/IllegalArgumentException"),
  ("java/lang/IllegalStateException", "java/lang/IllegalStateException"),
  ("java/lang/IndexOutOfBoundsException", "java/lang/IndexOutOfBoundsException"),
  ("VaneHouse", "java/lang/Object"),
  ("VaneHouse$Wind", "java/lang/Object"),
  ("java/util/ArrayList", "java/lang/Object"),
  ("VaneHouse$Town", "java/lang/Object"),
  ("VaneHouseModel", "java/lang/Object"),
  ("VaneHouseModel$State", "java/lang/Object"),
  ("java/lang/IllegalArgumentException", "java/lang/Object"),
  ("java/lang/IllegalStateException", "java/lang/Object"),
  ("java/lang/IndexOutOfBoundsException", "java/lang/Object"),
  ("VaneHouse$Mast", "java/lang/Object"),
  ("VaneHouse$Vane", "java/lang/Object"),
  ("VaneHouse$Motion", "java/lang/Object"),
  ("VaneHouse$AgendaEntry", "java/lang/Object"),
  ("java/lang/Throwable", "java/lang/Object"),
  ("java/lang/String", "java/lang/Object"),
  ("[Ljava/lang/Object;", "java/lang/Object"),
  ("[B", "java/lang/Object"),
  ("[I", "java/lang/Object"),
  ("[Z", "java/lang/Object"),
  ("[J", "java/lang/Object")]
def owD : List MethodName := [
  ⟨"java/lang/RuntimeException", "<init>", "()V"⟩,
  ⟨"java/lang/RuntimeException", "<init>", "(Ljava/lang/String;)V"⟩,
  ⟨"java/lang/Exception", "<init>", "()V"⟩,
  ⟨"java/lang/Exception", "<init>", "(Ljava/lang/String;)V"⟩,
  ⟨"java/lang/Throwable", "<init>", "()V"⟩,
  ⟨"java/lang/Throwable", "<init>", "(Ljava/lang/String;)V"⟩,
  ⟨"java/lang/Object", "getClass", "()Ljava/lang/Class;"⟩]
def OW : List Cond := owC.map (fun x => .castable x.1 x.2) ++ owD.map (fun x => .declares x)
/-- the texts of the exceptions: pool place, text -/
def strs : List (Nat × String) := [
  (55, "no such wind"),
  (69, "the table of winds is full"),
  (72, "no such hour"),
  (76, "a wind does not tell this"),
  (87, "no such place"),
  (89, "no such vane can be"),
  (98, "there is no room for it"),
  (117, "no such vane"),
  (130, "no such direction"),
  (135, "it is bound"),
  (143, "a vane does not tell this"),
  (155, "no such motion can be"),
  (157, "there are enough motions"),
  (167, "no such motion"),
  (169, "this hour does not come"),
  (171, "the agenda is full"),
  (178, "a motion does not tell this"),
  (187, "not so many hours at once"),
  (189, "time ends before"),
  (205, "this is not counted"),
  (210, "no such party"),
  (212, "a party does not tell this")]
/-- classes that are no subclasses of each other -/
def ncs : List (String × String) := [
  ("java/lang/IllegalArgumentException", "java/lang/IllegalStateException"), ("java/lang/IllegalArgumentException", "java/lang/IndexOutOfBoundsException"),
  ("java/lang/IllegalStateException", "java/lang/IllegalArgumentException"), ("java/lang/IllegalStateException", "java/lang/IndexOutOfBoundsException"),
  ("java/lang/IndexOutOfBoundsException", "java/lang/IllegalArgumentException"), ("java/lang/IndexOutOfBoundsException", "java/lang/IllegalStateException")]
def csF : Nat → Int32 := fun j => ([0, 1, 1, 1, 0, -1, -1, -1] : List Int32).getD j 0
def rsF : Nat → Int32 := fun j => ([-1, -1, 0, 1, 1, 1, 0, -1] : List Int32).getD j 0
def EvG (G : GE) (s : State) : Prop :=
  va_K (gD G) vwCl (tysL G) s ∧
  (va_Z RX1 "COLUMN_STEPS" "[I" (.ref (gCS G)) (gA G) s (gH G) ∧ va_Z RX1 "ROW_STEPS" "[I" (.ref (gRS G)) (gA G) s (gH G) ∧ va_Z RJx4a65c "DEFAULTCAPACITY_EMPTY_ELEMENTDATA" "[Ljava/lang/Object;" (.ref (gDE G)) (gA G) s (gH G)) ∧
  (va_T .int (gCS G) 8 (fun j => .int (csF j)) (gA G) s (gH G) ∧ va_T .int (gRS G) 8 (fun j => .int (rsF j)) (gA G) s (gH G) ∧ va_T (.object "java/lang/Object") (gDE G) 0 (fun _ => .null) (gA G) s (gH G)) ∧
  (∀ w ∈ NW, va_Nw w s) ∧ (∀ w ∈ OW, va_Nw w s) ∧
  (va_Mi "[Ljava/lang/Object;" (gMI G) s ∧ va_AO "java/lang/Object" s ∧ va_O "[Ljava/lang/Object;" (gDE G) (gA G) s (gH G)) ∧
  (vx_Zq Bundle.tN "UNASSIGNED_STACK" Bundle.steD (gA G) s (gH G) ∧ vx_Zq Bundle.tN "SUPPRESSED_SENTINEL" Bundle.listD (gA G) s (gH G)) ∧
  (∀ x ∈ strs, ∃ sa : Nat, vk_R RX6 x.1 x.2 sa s) ∧ (∀ x ∈ ncs, va_Nc x.1 x.2 s)

theorem NW.warm {s U : State} (hW : s.WarmedH U.vm) (h : ∀ w ∈ NW, va_Nw w s) : ∀ w ∈ NW, va_Nw w U := by
  intro w hw
  rcases List.mem_append.mp hw with h1 | h1
  · obtain ⟨x, -, rfl⟩ := List.mem_map.mp h1
    exact va_Nw.warmF hW (h _ hw)
  · obtain ⟨x, -, rfl⟩ := List.mem_map.mp h1
    exact va_Nw.warmM hW (h _ hw)
theorem OW.warm {s U : State} (hW : s.vm.Alike U.vm) (h : ∀ w ∈ OW, va_Nw w s) : ∀ w ∈ OW, va_Nw w U := by
  intro w hw
  rcases List.mem_append.mp hw with h1 | h1
  · obtain ⟨x, -, rfl⟩ := List.mem_map.mp h1
    exact va_tabs rfl (rfl : (s.setVm U.vm).vm = U.vm) (by rw [Cond.castable_setVm hW]; exact h _ hw)
  · obtain ⟨x, -, rfl⟩ := List.mem_map.mp h1
    exact va_tabs rfl (rfl : (s.setVm U.vm).vm = U.vm) (by rw [Cond.declares_setVm hW]; exact h _ hw)
theorem EvG.warm {G : GE} {s U : State} (hW : s.WarmedH U.vm) (h : EvG G s) : EvG G U := by
  obtain ⟨h1, ⟨a1, a2, a3⟩, ⟨b1, b2, b3⟩, h4, h5, ⟨c1, c0, c2⟩, ⟨d1, d2⟩, h8, h9⟩ := h
  have hal := hW.alike
  exact ⟨va_K.moved hal h1, ⟨va_Z.moved hal a1, va_Z.moved hal a2, va_Z.moved hal a3⟩, ⟨va_T.moved hal b1, va_T.moved hal b2, va_T.moved hal b3⟩, NW.warm hW h4, OW.warm hal h5, ⟨va_Mi.moved hal c1, va_AO.moved hal c0, va_O.moved hal c2⟩, ⟨vx_Zq.moved hal d1, vx_Zq.moved hal d2⟩,
    fun x hx => by obtain ⟨sa, hs⟩ := h8 x hx; exact ⟨sa, vk_R.warm hW hs⟩, fun x hx => va_Nc.moved hal (h9 x hx)⟩
theorem NW.same {u U : State} (hv : u.vm = U.vm) (h : ∀ w ∈ NW, va_Nw w u) : ∀ w ∈ NW, va_Nw w U := by
  intro w hw
  rcases List.mem_append.mp hw with h1 | h1
  · obtain ⟨x, -, rfl⟩ := List.mem_map.mp h1
    exact va_Nw.same rfl hv (h _ hw)
  · obtain ⟨x, -, rfl⟩ := List.mem_map.mp h1
    exact va_Nw.same rfl hv (h _ hw)
theorem EvG.same {G : GE} {u U : State} (hv : u.vm = U.vm) (h : EvG G u) : EvG G U := by
  obtain ⟨h1, ⟨a1, a2, a3⟩, ⟨b1, b2, b3⟩, h4, h5, ⟨c1, c0, c2⟩, ⟨d1, d2⟩, h8, h9⟩ := h
  have hal : u.vm.Alike U.vm := by rw [hv]; exact Vm.Alike.refl U.vm
  exact ⟨va_K.moved hal h1, ⟨va_Z.moved hal a1, va_Z.moved hal a2, va_Z.moved hal a3⟩, ⟨va_T.moved hal b1, va_T.moved hal b2, va_T.moved hal b3⟩, NW.same hv h4, OW.warm hal h5, ⟨va_Mi.moved hal c1, va_AO.moved hal c0, va_O.moved hal c2⟩, ⟨vx_Zq.moved hal d1, vx_Zq.moved hal d2⟩,
    fun x hx => by obtain ⟨sa, hs⟩ := h8 x hx; exact ⟨sa, vk_R.same hv.symm hs⟩, fun x hx => va_Nc.moved hal (h9 x hx)⟩
