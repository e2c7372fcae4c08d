section
-- ===== PART A: goes FIRST, ahead of the names: the tables' words, and 'selects' of the private methods out of them =====
/-- a private method of a class that the tables say can be made, by its rows of tables_1 -/
def lw_okq (q : MethodName × Nat) : Prop := (q.1.cls ≠ "java/lang/invoke/MethodHandle" ∧ q.1.cls ≠ "java/lang/invoke/VarHandle") ∧ Cond.instantiable q.1.cls q.2 ∈ tables_1 ∧ Cond.privateMethod q.1 ∈ tables_1 ∧ Cond.instanceMethod q.1 ∈ tables_1
theorem lw_p0 : lw_okq (⟨"java/util/ArrayList", "add", "(Ljava/lang/Object;[Ljava/lang/Object;I)V"⟩, 3) := ⟨⟨by decide +kernel, by decide +kernel⟩, List.mem_of_getElem? (i := 55) (by decide +kernel), List.mem_of_getElem? (i := 98) (by decide +kernel), List.mem_of_getElem? (i := 99) (by decide +kernel)⟩
theorem lw_p1 : lw_okq (⟨"java/util/ArrayList", "grow", "()[Ljava/lang/Object;"⟩, 3) := ⟨⟨by decide +kernel, by decide +kernel⟩, List.mem_of_getElem? (i := 55) (by decide +kernel), List.mem_of_getElem? (i := 102) (by decide +kernel), List.mem_of_getElem? (i := 103) (by decide +kernel)⟩
theorem lw_p2 : lw_okq (⟨"java/util/ArrayList", "grow", "(I)[Ljava/lang/Object;"⟩, 3) := ⟨⟨by decide +kernel, by decide +kernel⟩, List.mem_of_getElem? (i := 55) (by decide +kernel), List.mem_of_getElem? (i := 106) (by decide +kernel), List.mem_of_getElem? (i := 107) (by decide +kernel)⟩
theorem lw_p3 : lw_okq (⟨"VaneHouse", "windAt", "(I)LVaneHouse$Wind;"⟩, 8) := ⟨⟨by decide +kernel, by decide +kernel⟩, List.mem_of_getElem? (i := 27) (by decide +kernel), List.mem_of_getElem? (i := 228) (by decide +kernel), List.mem_of_getElem? (i := 229) (by decide +kernel)⟩
theorem lw_p4 : lw_okq (⟨"VaneHouse", "tally", "(I)I"⟩, 8) := ⟨⟨by decide +kernel, by decide +kernel⟩, List.mem_of_getElem? (i := 27) (by decide +kernel), List.mem_of_getElem? (i := 247) (by decide +kernel), List.mem_of_getElem? (i := 248) (by decide +kernel)⟩
theorem lw_p5 : lw_okq (⟨"VaneHouse", "digestWinds", "(J)J"⟩, 8) := ⟨⟨by decide +kernel, by decide +kernel⟩, List.mem_of_getElem? (i := 27) (by decide +kernel), List.mem_of_getElem? (i := 276) (by decide +kernel), List.mem_of_getElem? (i := 277) (by decide +kernel)⟩
theorem lw_p6 : lw_okq (⟨"VaneHouse", "digestVanes", "(J)J"⟩, 8) := ⟨⟨by decide +kernel, by decide +kernel⟩, List.mem_of_getElem? (i := 27) (by decide +kernel), List.mem_of_getElem? (i := 284) (by decide +kernel), List.mem_of_getElem? (i := 285) (by decide +kernel)⟩
theorem lw_p7 : lw_okq (⟨"VaneHouse", "digestMotions", "(J)J"⟩, 8) := ⟨⟨by decide +kernel, by decide +kernel⟩, List.mem_of_getElem? (i := 27) (by decide +kernel), List.mem_of_getElem? (i := 293) (by decide +kernel), List.mem_of_getElem? (i := 294) (by decide +kernel)⟩
theorem lw_p8 : lw_okq (⟨"java/lang/Throwable", "fillInStackTrace", "(I)Ljava/lang/Throwable;"⟩, 6) := ⟨⟨by decide +kernel, by decide +kernel⟩, List.mem_of_getElem? (i := 369) (by decide +kernel), List.mem_of_getElem? (i := 367) (by decide +kernel), List.mem_of_getElem? (i := 368) (by decide +kernel)⟩
theorem lw_p9 : lw_okq (⟨"VaneHouse$Mast", "isInLine", "(LVaneHouse$Mast;I)Z"⟩, 5) := ⟨⟨by decide +kernel, by decide +kernel⟩, List.mem_of_getElem? (i := 466) (by decide +kernel), List.mem_of_getElem? (i := 503) (by decide +kernel), List.mem_of_getElem? (i := 504) (by decide +kernel)⟩
theorem lw_p10 : lw_okq (⟨"VaneHouse", "isVane", "(I)Z"⟩, 8) := ⟨⟨by decide +kernel, by decide +kernel⟩, List.mem_of_getElem? (i := 27) (by decide +kernel), List.mem_of_getElem? (i := 554) (by decide +kernel), List.mem_of_getElem? (i := 555) (by decide +kernel)⟩
theorem lw_p11 : lw_okq (⟨"VaneHouse", "isMotion", "(I)Z"⟩, 8) := ⟨⟨by decide +kernel, by decide +kernel⟩, List.mem_of_getElem? (i := 27) (by decide +kernel), List.mem_of_getElem? (i := 633) (by decide +kernel), List.mem_of_getElem? (i := 634) (by decide +kernel)⟩
theorem lw_p12 : lw_okq (⟨"VaneHouse$Vane", "nextSpin", "(LVaneHouse$Wind;)I"⟩, 7) := ⟨⟨by decide +kernel, by decide +kernel⟩, List.mem_of_getElem? (i := 510) (by decide +kernel), List.mem_of_getElem? (i := 688) (by decide +kernel), List.mem_of_getElem? (i := 689) (by decide +kernel)⟩
theorem lw_p13 : lw_okq (⟨"VaneHouse", "voteAndRain", "(LVaneHouse$Town;IZ)I"⟩, 8) := ⟨⟨by decide +kernel, by decide +kernel⟩, List.mem_of_getElem? (i := 27) (by decide +kernel), List.mem_of_getElem? (i := 700) (by decide +kernel), List.mem_of_getElem? (i := 701) (by decide +kernel)⟩
theorem lw_p14 : lw_okq (⟨"VaneHouse", "dropPastEntries", "()V"⟩, 8) := ⟨⟨by decide +kernel, by decide +kernel⟩, List.mem_of_getElem? (i := 27) (by decide +kernel), List.mem_of_getElem? (i := 726) (by decide +kernel), List.mem_of_getElem? (i := 727) (by decide +kernel)⟩
theorem lw_p15 : lw_okq (⟨"java/util/ArrayList", "fastRemove", "([Ljava/lang/Object;I)V"⟩, 3) := ⟨⟨by decide +kernel, by decide +kernel⟩, List.mem_of_getElem? (i := 55) (by decide +kernel), List.mem_of_getElem? (i := 734) (by decide +kernel), List.mem_of_getElem? (i := 735) (by decide +kernel)⟩
def lw_privs_1 : List (MethodName × Nat) := [(⟨"java/util/ArrayList", "add", "(Ljava/lang/Object;[Ljava/lang/Object;I)V"⟩, 3), (⟨"java/util/ArrayList", "grow", "()[Ljava/lang/Object;"⟩, 3), (⟨"java/util/ArrayList", "grow", "(I)[Ljava/lang/Object;"⟩, 3), (⟨"VaneHouse", "windAt", "(I)LVaneHouse$Wind;"⟩, 8), (⟨"VaneHouse", "tally", "(I)I"⟩, 8), (⟨"VaneHouse", "digestWinds", "(J)J"⟩, 8), (⟨"VaneHouse", "digestVanes", "(J)J"⟩, 8), (⟨"VaneHouse", "digestMotions", "(J)J"⟩, 8), (⟨"java/lang/Throwable", "fillInStackTrace", "(I)Ljava/lang/Throwable;"⟩, 6), (⟨"VaneHouse$Mast", "isInLine", "(LVaneHouse$Mast;I)Z"⟩, 5), (⟨"VaneHouse", "isVane", "(I)Z"⟩, 8), (⟨"VaneHouse", "isMotion", "(I)Z"⟩, 8), (⟨"VaneHouse$Vane", "nextSpin", "(LVaneHouse$Wind;)I"⟩, 7), (⟨"VaneHouse", "voteAndRain", "(LVaneHouse$Town;IZ)I"⟩, 8), (⟨"VaneHouse", "dropPastEntries", "()V"⟩, 8), (⟨"java/util/ArrayList", "fastRemove", "([Ljava/lang/Object;I)V"⟩, 3)]
theorem lw_r1 : ∀ q ∈ lw_privs_1, lw_okq q := List.forall_mem_cons.mpr ⟨lw_p0, List.forall_mem_cons.mpr ⟨lw_p1, List.forall_mem_cons.mpr ⟨lw_p2, List.forall_mem_cons.mpr ⟨lw_p3, List.forall_mem_cons.mpr ⟨lw_p4, List.forall_mem_cons.mpr ⟨lw_p5, List.forall_mem_cons.mpr ⟨lw_p6, List.forall_mem_cons.mpr ⟨lw_p7, List.forall_mem_cons.mpr ⟨lw_p8, List.forall_mem_cons.mpr ⟨lw_p9, List.forall_mem_cons.mpr ⟨lw_p10, List.forall_mem_cons.mpr ⟨lw_p11, List.forall_mem_cons.mpr ⟨lw_p12, List.forall_mem_cons.mpr ⟨lw_p13, List.forall_mem_cons.mpr ⟨lw_p14, List.forall_mem_cons.mpr ⟨lw_p15, fun _ h => absurd h List.not_mem_nil⟩⟩⟩⟩⟩⟩⟩⟩⟩⟩⟩⟩⟩⟩⟩⟩
theorem lw_p16 : lw_okq (⟨"VaneHouse", "hoursUntilItPasses", "(LVaneHouse$Motion;I)I"⟩, 8) := ⟨⟨by decide +kernel, by decide +kernel⟩, List.mem_of_getElem? (i := 27) (by decide +kernel), List.mem_of_getElem? (i := 786) (by decide +kernel), List.mem_of_getElem? (i := 787) (by decide +kernel)⟩
theorem lw_p17 : lw_okq (⟨"VaneHouseModel", "no", "(I)I"⟩, 3) := ⟨⟨by decide +kernel, by decide +kernel⟩, List.mem_of_getElem? (i := 797) (by decide +kernel), List.mem_of_getElem? (i := 880) (by decide +kernel), List.mem_of_getElem? (i := 881) (by decide +kernel)⟩
theorem lw_p18 : lw_okq (⟨"VaneHouseModel", "layWind", "(IIIZ)V"⟩, 3) := ⟨⟨by decide +kernel, by decide +kernel⟩, List.mem_of_getElem? (i := 797) (by decide +kernel), List.mem_of_getElem? (i := 884) (by decide +kernel), List.mem_of_getElem? (i := 885) (by decide +kernel)⟩
theorem lw_p19 : lw_okq (⟨"VaneHouseModel", "windTold", "(II)I"⟩, 3) := ⟨⟨by decide +kernel, by decide +kernel⟩, List.mem_of_getElem? (i := 797) (by decide +kernel), List.mem_of_getElem? (i := 896) (by decide +kernel), List.mem_of_getElem? (i := 897) (by decide +kernel)⟩
theorem lw_p20 : lw_okq (⟨"VaneHouseModel", "isVane", "(I)Z"⟩, 3) := ⟨⟨by decide +kernel, by decide +kernel⟩, List.mem_of_getElem? (i := 797) (by decide +kernel), List.mem_of_getElem? (i := 913) (by decide +kernel), List.mem_of_getElem? (i := 914) (by decide +kernel)⟩
theorem lw_p21 : lw_okq (⟨"VaneHouseModel$State", "set", "(III)V"⟩, 12) := ⟨⟨by decide +kernel, by decide +kernel⟩, List.mem_of_getElem? (i := 803) (by decide +kernel), List.mem_of_getElem? (i := 921) (by decide +kernel), List.mem_of_getElem? (i := 922) (by decide +kernel)⟩
theorem lw_p22 : lw_okq (⟨"VaneHouseModel", "vaneTold", "(II)I"⟩, 3) := ⟨⟨by decide +kernel, by decide +kernel⟩, List.mem_of_getElem? (i := 797) (by decide +kernel), List.mem_of_getElem? (i := 934) (by decide +kernel), List.mem_of_getElem? (i := 935) (by decide +kernel)⟩
theorem lw_p23 : lw_okq (⟨"VaneHouseModel", "partyOf", "(I)I"⟩, 3) := ⟨⟨by decide +kernel, by decide +kernel⟩, List.mem_of_getElem? (i := 797) (by decide +kernel), List.mem_of_getElem? (i := 938) (by decide +kernel), List.mem_of_getElem? (i := 939) (by decide +kernel)⟩
theorem lw_p24 : lw_okq (⟨"VaneHouseModel$State", "entry", "()I"⟩, 12) := ⟨⟨by decide +kernel, by decide +kernel⟩, List.mem_of_getElem? (i := 803) (by decide +kernel), List.mem_of_getElem? (i := 946) (by decide +kernel), List.mem_of_getElem? (i := 947) (by decide +kernel)⟩
theorem lw_p25 : lw_okq (⟨"VaneHouseModel", "isMotion", "(I)Z"⟩, 3) := ⟨⟨by decide +kernel, by decide +kernel⟩, List.mem_of_getElem? (i := 797) (by decide +kernel), List.mem_of_getElem? (i := 972) (by decide +kernel), List.mem_of_getElem? (i := 973) (by decide +kernel)⟩
theorem lw_p26 : lw_okq (⟨"VaneHouseModel", "motionTold", "(II)I"⟩, 3) := ⟨⟨by decide +kernel, by decide +kernel⟩, List.mem_of_getElem? (i := 797) (by decide +kernel), List.mem_of_getElem? (i := 980) (by decide +kernel), List.mem_of_getElem? (i := 981) (by decide +kernel)⟩
theorem lw_p27 : lw_okq (⟨"VaneHouseModel$State", "vote", "(I)I"⟩, 12) := ⟨⟨by decide +kernel, by decide +kernel⟩, List.mem_of_getElem? (i := 803) (by decide +kernel), List.mem_of_getElem? (i := 1023) (by decide +kernel), List.mem_of_getElem? (i := 1024) (by decide +kernel)⟩
theorem lw_p28 : lw_okq (⟨"VaneHouseModel", "counted", "(I)I"⟩, 3) := ⟨⟨by decide +kernel, by decide +kernel⟩, List.mem_of_getElem? (i := 797) (by decide +kernel), List.mem_of_getElem? (i := 1033) (by decide +kernel), List.mem_of_getElem? (i := 1034) (by decide +kernel)⟩
theorem lw_p29 : lw_okq (⟨"VaneHouseModel", "partyTold", "(II)I"⟩, 3) := ⟨⟨by decide +kernel, by decide +kernel⟩, List.mem_of_getElem? (i := 797) (by decide +kernel), List.mem_of_getElem? (i := 1041) (by decide +kernel), List.mem_of_getElem? (i := 1042) (by decide +kernel)⟩
theorem lw_p30 : lw_okq (⟨"VaneHouseModel", "first", "(III)I"⟩, 3) := ⟨⟨by decide +kernel, by decide +kernel⟩, List.mem_of_getElem? (i := 797) (by decide +kernel), List.mem_of_getElem? (i := 1063) (by decide +kernel), List.mem_of_getElem? (i := 1064) (by decide +kernel)⟩
def lw_privs_2 : List (MethodName × Nat) := [(⟨"VaneHouse", "hoursUntilItPasses", "(LVaneHouse$Motion;I)I"⟩, 8), (⟨"VaneHouseModel", "no", "(I)I"⟩, 3), (⟨"VaneHouseModel", "layWind", "(IIIZ)V"⟩, 3), (⟨"VaneHouseModel", "windTold", "(II)I"⟩, 3), (⟨"VaneHouseModel", "isVane", "(I)Z"⟩, 3), (⟨"VaneHouseModel$State", "set", "(III)V"⟩, 12), (⟨"VaneHouseModel", "vaneTold", "(II)I"⟩, 3), (⟨"VaneHouseModel", "partyOf", "(I)I"⟩, 3), (⟨"VaneHouseModel$State", "entry", "()I"⟩, 12), (⟨"VaneHouseModel", "isMotion", "(I)Z"⟩, 3), (⟨"VaneHouseModel", "motionTold", "(II)I"⟩, 3), (⟨"VaneHouseModel$State", "vote", "(I)I"⟩, 12), (⟨"VaneHouseModel", "counted", "(I)I"⟩, 3), (⟨"VaneHouseModel", "partyTold", "(II)I"⟩, 3), (⟨"VaneHouseModel", "first", "(III)I"⟩, 3)]
theorem lw_r2 : ∀ q ∈ lw_privs_2, lw_okq q := List.forall_mem_cons.mpr ⟨lw_p16, List.forall_mem_cons.mpr ⟨lw_p17, List.forall_mem_cons.mpr ⟨lw_p18, List.forall_mem_cons.mpr ⟨lw_p19, List.forall_mem_cons.mpr ⟨lw_p20, List.forall_mem_cons.mpr ⟨lw_p21, List.forall_mem_cons.mpr ⟨lw_p22, List.forall_mem_cons.mpr ⟨lw_p23, List.forall_mem_cons.mpr ⟨lw_p24, List.forall_mem_cons.mpr ⟨lw_p25, List.forall_mem_cons.mpr ⟨lw_p26, List.forall_mem_cons.mpr ⟨lw_p27, List.forall_mem_cons.mpr ⟨lw_p28, List.forall_mem_cons.mpr ⟨lw_p29, List.forall_mem_cons.mpr ⟨lw_p30, fun _ h => absurd h List.not_mem_nil⟩⟩⟩⟩⟩⟩⟩⟩⟩⟩⟩⟩⟩⟩⟩
def lw_privs : List (MethodName × Nat) := lw_privs_1 ++ (lw_privs_2)
def lw_tbl : List Cond := k2_sels lw_privs ++ tables_1
theorem lw_privs_ok : ∀ q ∈ lw_privs, lw_okq q := by
  show ∀ q ∈ lw_privs_1 ++ (lw_privs_2), lw_okq q
  exact List.forall_mem_append.mpr ⟨lw_r1, lw_r2⟩
/-- the streams that the claim lets the run draw from -/
abbrev lw_cs : List Choice := [Jvm.Choice.named "NaN.bits"]
theorem lw_bits : nanBits ∈ lw_cs := by first | decide | exact List.mem_cons_self | simp [lw_cs, nanBits]

/-! ===== BEGIN words of one list among another's, by their places ===== -/
theorem goodIn_r {big : List Cond} (ws : List Cond) (ps : List Nat) (hp : ws = ps.filterMap (fun i => big[i]?)) (h : ws.all goodWord = true) : GoodIn big ws := by
  intro w hw
  have h1 := List.all_eq_true.mp h w hw
  rw [hp] at hw
  obtain ⟨i, -, hi⟩ := List.mem_filterMap.mp hw
  have hm : w ∈ big := by first | exact List.mem_of_getElem? hi | exact List.getElem?_mem hi
  exact ⟨hm, good_of_word h1⟩
theorem goodIn_app {big a b : List Cond} (ha : GoodIn big a) (hb : GoodIn big b) : GoodIn big (a ++ b) := fun w h => (List.mem_append.mp h).elim (ha w) (hb w)
theorem goodIn_ca {big a b : List Cond} {c : Cond} (ha : GoodIn big (c :: a)) (hb : GoodIn big b) : GoodIn big (c :: (a ++ b)) := fun w h => (List.mem_cons.mp h).elim (fun e => ha w (List.mem_cons.mpr (Or.inl e))) (fun h => (List.mem_append.mp h).elim (fun h => ha w (List.mem_cons.mpr (Or.inr h))) (hb w))
theorem goodIn_sub {big ws : List Cond} (hm : ∀ w ∈ ws, w ∈ big) (h : ws.all goodWord = true) : GoodIn big ws := fun w hw => ⟨hm w hw, good_of_word (List.all_eq_true.mp h w hw)⟩
/-! ===== END ===== -/

/-! ===== BEGIN exceptions that leave a method, and their catching by the caller (launches without stack traces) ===== -/
section VXA
/-! The laws vx_back, vx_callV, vx_callS, vx_callSW, vx_throw0, vx_throwS follow proofs of the library, with one case more: JvmDerived/Free/Laws.lean (Back.of_free), Shelf42/LK1.lean (callV, callS), Shelf/KitTraced.lean (throwNew0V, throwNewS). -/
/-- where a method has thrown q: the class by its name, the cell, what was written, the world -/
def vx_T (XC : String → State → State → Prop) (st : State) (q : Addr) (t : State) (mc ms : Nat) (free : Addr → Prop) : Prop :=
  ∃ (E : String) (ce : Cell) (L : List Loc), XC E st t ∧ t.heap[q]? = some ce ∧ ce.vm = .none ∧ st.vm.findClass E = some ce.cls ∧ st.WarmedH t.vm ∧ st.sameButNew ({ t with vm := st.vm } : State) L mc ms ∧ ∀ z ∈ L, free z.base
def vx_Q (Qc : Array Value → State → Outcome → State → Prop) (XC : String → State → State → Prop) (mc ms : Nat) (free : Addr → Prop) : Array Value → State → Outcome → State → Prop := fun a st o t =>
  (Qc a st o t ∧ ∃ L, FrameEnd st o t L mc ms ∧ ∀ q ∈ L, free q.base) ∨ ∃ q, o = .threw q ∧ vx_T XC st q t mc ms free
/-- a callee that returns or throws -/
def vx_Met (l : Launch) (y : MethodName) (ws : List Cond) (rm : Room) (Pc : Array Value → State → Prop) (Qc : Array Value → State → Outcome → State → Prop) (XC : String → State → State → Prop) (mc ms : Nat) (free : Addr → Prop) : Prop :=
  MetFree l y (headSpec ws rm) Pc (fun _ _ _ _ _ => True) (vx_Q Qc XC mc ms free)
def vx_Post (XC : String → State → State → Prop) (mc ms : Nat) (free : Addr → Prop) : Pt → Array Value → Addr → Pt → Prop := fun A a q B =>
  ∃ (g : JFrame) (mk : MethodId) (t : State) (L : List Loc) (E : String) (ce : Cell), B.U.heap = t.heap ∧ B.U.vm = t.vm ∧ XC E (A.U.calling g mk a) t ∧ t.heap[q]? = some ce ∧ ce.vm = .none ∧ A.U.vm.findClass E = some ce.cls ∧ B.locs = A.locs ++ L ∧ (∀ z ∈ L, free z.base) ∧ B.cells = A.cells + mc ∧ B.slots = A.slots + ms
def vx_Back (l : Launch) (R : Room) (p : Program) (e : Env) (below : List Frame) (s : State) (sargs : Array Value) (y : MethodName) (len W9 : Nat)
    (Pre : Pt → Array Value → Prop) (Post : Pt → Array Value → Option Value → Pt → Prop) (PostX : Pt → Array Value → Addr → Pt → Prop) : Prop :=
  ∀ (m : MethodId) (meth : Method) (c : Code) (A : Pt) (g : JFrame) (ig : Instr) (mk : MethodId) (a : Array Value),
    Stand p l e R s m sargs below meth c A.U A.locs A.cells A.slots → g.method = m → g.locals.size = c.maxLocals → decode c.code g.pc = .ok (ig, len) →
    2 * g.monitorRoom + (g.stack.map fun v => v.category).sum ≤ W9 → A.U.methodNamed? y = some mk → Pre A a →
    (∃ (v : Option Value) (B : Pt), Stand p l e R s m sargs below meth c B.U B.locs B.cells B.slots ∧ Post A a v B ∧
      Steps p.tables e below (doInvoke e (A.U.setTop g) [] mk a).1 (B.U.setTop { g with pc := g.pc + len, stack := v.toList ++ g.stack })) ∨
    (∃ (q : Addr) (B : Pt), Stand p l e R s m sargs below meth c B.U B.locs B.cells B.slots ∧ PostX A a q B ∧
      Steps p.tables e below (doInvoke e (A.U.setTop g) [] mk a).1 ((B.U.setTop g).pushFrame (.throwing q)))
section Payer
variable {l : Launch} {R : Room} {p : Program} {e : Env} {below : List Frame} {s : State} {sargs : Array Value} {y : MethodName} {len W9 : Nat}
theorem vx_back {ws : List Cond} {rm : Room} {Pc : Array Value → State → Prop} {Qc : Array Value → State → Outcome → State → Prop} {XC : String → State → State → Prop} {mc ms : Nat} {free : Addr → Prop} {bytes : ByteArray} {maxL : Nat} {ret : Option FieldType}
    (hM : vx_Met l y ws rm Pc Qc XC mc ms free) (hblind : FrameBlind Pc) (hrc : rm.cells = mc) (hrs : rm.slots = ms)
    (hframes : rm.frames + 1 ≤ R.frames) (hlocals : W9 + (maxL + 11) + rm.locals ≤ R.locals)
    (hws : ∀ w ∈ ws, ∀ a' U, s.WarmedH U.vm → w.before a' U = true) (hcode : Cond.code y bytes maxL ret ∈ ws) (hinit : ∀ a' U, s.WarmedH U.vm → (Cond.initialized y.cls).before a' U = true) :
    vx_Back l R p e below s sargs y len W9 (PreOf R mc ms Pc) (PostOf Qc mc ms free) (vx_Post XC mc ms free) := by
  intro m meth c A g ig mk a X hg hsize hdg hW hn hp
  have h1 : (headSpec ws rm).pre.before a A.U = true := atoms_intro fun w hw => hws w hw _ _ X.warmed
  have h2 : (Cond.code y bytes maxL ret).before a A.U = true := hws _ hcode _ _ X.warmed
  have h3 : (Cond.initialized y.cls).before a A.U = true := hinit _ _ X.warmed
  have h4 : A.cells + (headSpec ws rm).room.cells ≤ R.cells := by rw [show (headSpec ws rm).room.cells = mc from hrc]; exact hp.1
  have h5 : A.slots + (headSpec ws rm).room.slots ≤ R.slots := by rw [show (headSpec ws rm).room.slots = ms from hrs]; exact hp.2.1
  have hPc : Pc a (A.U.calling g mk a) := hblind _ _ _ _ hp.2.2
  obtain ⟨U, Ls, c0, s0⟩ := A
  dsimp only [Pt.U, Pt.locs, Pt.cells, Pt.slots] at h1 h2 h3 h4 h5 X hn hPc ⊢
  obtain ⟨methY, cY, hmY, hcY, -, hlY, -, -, -, -⟩ := Cond.code_spec hn h2
  obtain ⟨kY, hkY, -⟩ := className_of_methodNamed hn
  have hinitY : kY.init = .initialized := Cond.initialized_spec (findClass_of_methodNamed hn) hkY h3
  have h : At U g.method c below := by rw [hg]; exact X.here
  have hlocals9 : W9 + (maxL + 11) + (headSpec ws rm).room.locals ≤ R.locals := hlocals
  have happ : (headSpec ws rm).appliesLoose y e.platform (U.calling g mk a) = true :=
    Spec.appliesLoose_calling (g := g) h hdg hn hkY hinitY
      (X.room_calling (g := g) (R' := (headSpec ws rm).room) hsize hmY hcY hframes (by rw [hlY]; omega) h4 h5) h1
  obtain ⟨mid, hmid⟩ := h.above
  have hfr : (U.setTop g).frames = (.java g :: mid) ++ below := by rw [State.frames_setTop' g h.top, hmid]; rfl
  obtain ⟨o, s₂, hsteps, -, hend, hq⟩ := Steps.callFree hM p X.admits X.cas X.clock (acts := []) hfr happ hPc trivial
  have hq' : vx_Q Qc XC mc ms free a (U.calling g mk a) o s₂ := hq
  rw [State.frames_setTop' g h.top] at hend
  obtain ⟨g₀, hg0⟩ := Option.isSome_iff_exists.mp h.top
  obtain ⟨r, hr⟩ := State.topJava?_eq_some.mp hg0
  have hr' : (({ U with heap := s₂.heap, slotsUsed := s₂.slotsUsed } : State).setVm s₂.vm).frames = .java g₀ :: r := hr
  rcases hq' with ⟨hqc, L, hfe, hL⟩ | ⟨q, rfl, E, ce, L, hx, hce, hcv, hcl, hW₂, hsm, hL⟩
  · obtain ⟨⟨v, rfl⟩, hW₂, e2, q2, q3, q4, q5, q6⟩ := id hfe
    have e3 : s₂ = ({ (U.calling g mk a).setFrames s₂.frames with heap := s₂.heap, slotsUsed := s₂.slotsUsed } : State).setVm s₂.vm := by
      have : s₂ = ({ s₂ with vm := (U.calling g mk a).vm } : State).setVm s₂.vm := rfl
      rw [e2] at this
      exact this
    obtain ⟨c₂, i₂, len₂, hc₂, hd₂, hf₂⟩ := hend
    have hW' : U.WarmedH s₂.vm := hW₂
    have hcc : c₂ = c := by
      have h1 : s₂.code? g.method = U.code? g.method := by
        rw [State.code?_eq, State.code?_eq, hW'.alike.method?]
      exact Option.some.inj (hc₂.symm.trans (h1.trans h.code))
    subst hcc
    have hlen : len₂ = len := by rw [hdg] at hd₂; cases hd₂; rfl
    subst hlen
    have hs₂ : s₂ = (({ U with heap := s₂.heap, slotsUsed := s₂.slotsUsed } : State).setVm s₂.vm).setTop { g with pc := g.pc + len₂, stack := v.toList ++ g.stack } := by
      refine e3.trans ?_
      rw [hf₂, State.calling_eq h.top, State.setFrames_setFrames, State.setTop_of_frames _ hr', hr]
      rfl
    have hsame : U.sameButNew ({ U with heap := s₂.heap, slotsUsed := s₂.slotsUsed } : State) L mc ms := by
      refine ⟨?_, q2, q3, q4, q5, q6⟩
      obtain ⟨t, ht, -⟩ := State.frames_cons hr
      show ({ U with heap := s₂.heap, slotsUsed := s₂.slotsUsed } : State) = { U.setFrames U.frames with heap := s₂.heap, slotsUsed := s₂.slotsUsed }
      rw [State.setFrames_self ht]
    subst hg
    refine Or.inl ⟨v, ⟨(({ U with heap := s₂.heap, slotsUsed := s₂.slotsUsed } : State).setVm s₂.vm), Ls ++ L, c0 + mc, s0 + ms⟩,
      ⟨X.admits, X.cas, X.clock, X.frames, X.room, X.hears, X.method, X.code, (X.here.setHeapUsed s₂.heap s₂.slotsUsed).setVm hW'.alike, X.tail, State.WarmedH.trans X.warmed hW', X.limits, X.bytes, X.same.trans (hsame.setVm s.vm)⟩,
      ⟨g, mk, s₂, L, rfl, rfl, hqc, rfl, hL, rfl, rfl⟩, ?_⟩
    show Steps p.tables e below _ ((({ U with heap := s₂.heap, slotsUsed := s₂.slotsUsed } : State).setVm s₂.vm).setTop { g with pc := g.pc + len₂, stack := v.toList ++ g.stack })
    rw [← hs₂]
    exact hsteps
  · obtain ⟨e2, q2, q3, q4, q5, q6⟩ := id hsm
    have e3 : s₂ = ({ (U.calling g mk a).setFrames s₂.frames with heap := s₂.heap, slotsUsed := s₂.slotsUsed } : State).setVm s₂.vm := by
      have : s₂ = ({ s₂ with vm := (U.calling g mk a).vm } : State).setVm s₂.vm := rfl
      rw [e2] at this
      exact this
    have hf₂ : s₂.frames = .throwing q :: .java g :: U.frames.tail := hend
    have hW' : U.WarmedH s₂.vm := hW₂
    have hs₂ : s₂ = ((({ U with heap := s₂.heap, slotsUsed := s₂.slotsUsed } : State).setVm s₂.vm).setTop g).pushFrame (.throwing q) := by
      refine e3.trans ?_
      rw [hf₂, State.calling_eq h.top, State.setFrames_setFrames, State.pushFrame, State.frames_setTop _ hr', State.setTop_of_frames _ hr', State.setFrames_setFrames, hr]
      rfl
    have hsame : U.sameButNew ({ U with heap := s₂.heap, slotsUsed := s₂.slotsUsed } : State) L mc ms := by
      refine ⟨?_, q2, q3, q4, q5, q6⟩
      obtain ⟨t, ht, -⟩ := State.frames_cons hr
      show ({ U with heap := s₂.heap, slotsUsed := s₂.slotsUsed } : State) = { U.setFrames U.frames with heap := s₂.heap, slotsUsed := s₂.slotsUsed }
      rw [State.setFrames_self ht]
    subst hg
    refine Or.inr ⟨q, ⟨(({ U with heap := s₂.heap, slotsUsed := s₂.slotsUsed } : State).setVm s₂.vm), Ls ++ L, c0 + mc, s0 + ms⟩,
      ⟨X.admits, X.cas, X.clock, X.frames, X.room, X.hears, X.method, X.code, (X.here.setHeapUsed s₂.heap s₂.slotsUsed).setVm hW'.alike, X.tail, State.WarmedH.trans X.warmed hW', X.limits, X.bytes, X.same.trans (hsame.setVm s.vm)⟩,
      ⟨g, mk, s₂, L, E, ce, rfl, rfl, hx, hce, hcv, hcl, rfl, hL, rfl, rfl⟩, ?_⟩
    show Steps p.tables e below _ (((({ U with heap := s₂.heap, slotsUsed := s₂.slotsUsed } : State).setVm s₂.vm).setTop g).pushFrame (.throwing q))
    rw [← hs₂]
    exact hsteps
end Payer
section Calls
variable {p : Program} {l : Launch} {e : Env} {R : Room} {s : State} {m : MethodId} {args : Array Value} {below : List Frame} {meth : Method} {c : Code} {T : State} {locs : List Loc} {cells slots : Nat}
theorem vx_callV (X : Stand p l e R s m args below meth c T locs cells slots) (hexec : p.tables.exec = Jvm.exec) {own C : String} {index : Nat} {y : MethodName} {bytes : ByteArray} {maxL : Nat} {ret : Option FieldType}
    (hown : s.vm.findClass own = some m.cls) (hlink : (Cond.methodLink own index y).before args s = true) (hinst : (Cond.instanceMethod y).before args s = true) (hsel : (Cond.selects C y y).before args s = true)
    (hcode : (Cond.code y bytes maxL ret).before args s = true) (hy : y.cls ≠ "java/lang/invoke/MethodHandle" ∧ y.cls ≠ "java/lang/invoke/VarHandle")
    {W9 : Nat} {Pre : Pt → Array Value → Prop} {Post : Pt → Array Value → Option Value → Pt → Prop} {PostX : Pt → Array Value → Addr → Pt → Prop} (hK : vx_Back l R p e below s args y 3 W9 Pre Post PostX)
    {b : Addr} {cellB : Cell} (hcell : T.heap[b]? = some cellB) (hobj : cellB.vm.isStatics = false) (hcls : s.vm.findClass C = some cellB.cls)
    {g : JFrame} (hg : g.method = m) (hsize : g.locals.size = c.maxLocals) {argsL rest : List Value} (hlen : ∀ sig, parseMethodDescriptor y.desc = some sig → argsL.length = sig.parameters.length)
    (hstack : g.stack = argsL.reverse ++ .ref b :: rest) (hW : 2 * g.monitorRoom + (rest.map fun v => v.category).sum ≤ W9) (hdg : decode c.code g.pc = .ok (.invokevirtual index, 3))
    (hpre : ∀ vm₁, s.WarmedH vm₁ → Pre ⟨T.setVm vm₁, locs, cells, slots⟩ (Value.ref b :: argsL).toArray) :
    (∃ (v : Option Value) (vm₁ : Vm) (B : Pt), s.WarmedH vm₁ ∧ Stand p l e R s m args below meth c B.U B.locs B.cells B.slots ∧ Post ⟨T.setVm vm₁, locs, cells, slots⟩ (Value.ref b :: argsL).toArray v B ∧
      ∀ target, Steps p.tables e below (B.U.setTop { g with pc := g.pc + 3, stack := v.toList ++ rest }) target → Steps p.tables e below (T.setTop g) target) ∨
    (∃ (q : Addr) (vm₁ : Vm) (B : Pt), s.WarmedH vm₁ ∧ Stand p l e R s m args below meth c B.U B.locs B.cells B.slots ∧ PostX ⟨T.setVm vm₁, locs, cells, slots⟩ (Value.ref b :: argsL).toArray q B ∧
      Steps p.tables e below (T.setTop g) ((B.U.setTop { g with stack := rest }).pushFrame (.throwing q))) := by
  obtain ⟨mk, methM, hnamed, hmethM, hstM, habM⟩ := Cond.instanceMethod_spec hinst
  obtain ⟨methM', cM, hmethM', -, -, -, -, -, -, hsigM⟩ := Cond.code_spec hnamed hcode
  cases hmethM.symm.trans hmethM'
  obtain ⟨c2, r2, m2, q1, q2, q3, q4, kP, hkP, hkPi⟩ := Cond.selects_spec hsel
  cases hcls.symm.trans q1
  cases (State.methodFound?_of_named hnamed hy).symm.trans q2
  cases hnamed.symm.trans q3
  have hselP : selectMethod e.platform s.vm cellB.cls mk = .method mk := by rw [Launch.admits_selectMethod X.admits]; exact q4
  obtain ⟨vm₁, X₁, hstep₁⟩ := X.invokevirtual hexec hown hlink hnamed hmethM hstM hkP hkPi hy (a := b) (cell := cellB) hcell
    (fun z h => by rw [h] at hobj; cases hobj) hselP hmethM habM hkP hkPi (g := g) hg (argsL := argsL) (rest := rest) (hlen _ hsigM) hstack hdg
  rcases hK m meth c ⟨T.setVm vm₁, locs, cells, slots⟩ { g with stack := rest } (.invokevirtual index) mk (Value.ref b :: argsL).toArray X₁ hg hsize hdg hW (X₁.named hnamed) (hpre vm₁ X₁.warmed) with ⟨v, B, X', hpost, hsteps⟩ | ⟨q, B, X', hpost, hsteps⟩
  · exact Or.inl ⟨v, vm₁, B, X₁.warmed, X', hpost, fun target h => hstep₁ _ fun acts => by rw [doInvoke_state]; exact hsteps.trans h⟩
  · exact Or.inr ⟨q, vm₁, B, X₁.warmed, X', hpost, hstep₁ _ fun acts => by rw [doInvoke_state]; exact hsteps⟩
theorem vx_callS (X : Stand p l e R s m args below meth c T locs cells slots) (hexec : p.tables.exec = Jvm.exec) {own : String} {index : Nat} {y : MethodName} {bytes : ByteArray} {maxL : Nat} {ret : Option FieldType}
    (hown : s.vm.findClass own = some m.cls) (hlink : (Cond.methodLink own index y).before args s = true) (hstat : (Cond.static y).before args s = true) (hinit : (Cond.initialized y.cls).before args s = true)
    (hcode : (Cond.code y bytes maxL ret).before args s = true) (hy : y.cls ≠ "java/lang/invoke/MethodHandle" ∧ y.cls ≠ "java/lang/invoke/VarHandle")
    {W9 : Nat} {Pre : Pt → Array Value → Prop} {Post : Pt → Array Value → Option Value → Pt → Prop} {PostX : Pt → Array Value → Addr → Pt → Prop} (hK : vx_Back l R p e below s args y 3 W9 Pre Post PostX)
    {g : JFrame} (hg : g.method = m) (hsize : g.locals.size = c.maxLocals) {argsL rest : List Value} (hlen : ∀ sig, parseMethodDescriptor y.desc = some sig → argsL.length = sig.parameters.length)
    (hstack : g.stack = argsL.reverse ++ rest) (hW : 2 * g.monitorRoom + (rest.map fun v => v.category).sum ≤ W9) (hdg : decode c.code g.pc = .ok (.invokestatic index, 3))
    (hpre : ∀ vm₁, s.WarmedH vm₁ → Pre ⟨T.setVm vm₁, locs, cells, slots⟩ argsL.toArray) :
    (∃ (v : Option Value) (vm₁ : Vm) (B : Pt), s.WarmedH vm₁ ∧ Stand p l e R s m args below meth c B.U B.locs B.cells B.slots ∧ Post ⟨T.setVm vm₁, locs, cells, slots⟩ argsL.toArray v B ∧
      ∀ target, Steps p.tables e below (B.U.setTop { g with pc := g.pc + 3, stack := v.toList ++ rest }) target → Steps p.tables e below (T.setTop g) target) ∨
    (∃ (q : Addr) (vm₁ : Vm) (B : Pt), s.WarmedH vm₁ ∧ Stand p l e R s m args below meth c B.U B.locs B.cells B.slots ∧ PostX ⟨T.setVm vm₁, locs, cells, slots⟩ argsL.toArray q B ∧
      Steps p.tables e below (T.setTop g) ((B.U.setTop { g with stack := rest }).pushFrame (.throwing q))) := by
  obtain ⟨mk, hnamed⟩ := Cond.code_named hcode
  obtain ⟨methM, cM, hmethM, -, -, -, -, -, -, hsigM⟩ := Cond.code_spec hnamed hcode
  have hstatic : methM.isStatic = true := Cond.static_spec hnamed hmethM hstat
  obtain ⟨kP, hkP, -⟩ := className_of_methodNamed hnamed
  have hinitP : kP.init = .initialized := Cond.initialized_spec (findClass_of_methodNamed hnamed) hkP hinit
  obtain ⟨vm₁, X₁, hstep₁⟩ := X.invokestatic hexec hown hlink hnamed hmethM hstatic hkP hinitP hy (g := g) hg (argsL := argsL) (rest := rest) (hlen _ hsigM) hstack hdg
  rcases hK m meth c ⟨T.setVm vm₁, locs, cells, slots⟩ { g with stack := rest } (.invokestatic index) mk argsL.toArray X₁ hg hsize hdg hW (X₁.named hnamed) (hpre vm₁ X₁.warmed) with ⟨v, B, X', hpost, hsteps⟩ | ⟨q, B, X', hpost, hsteps⟩
  · exact Or.inl ⟨v, vm₁, B, X₁.warmed, X', hpost, fun target h => hstep₁ _ fun acts => by rw [doInvoke_state]; exact hsteps.trans h⟩
  · exact Or.inr ⟨q, vm₁, B, X₁.warmed, X', hpost, hstep₁ _ fun acts => by rw [doInvoke_state]; exact hsteps⟩
end Calls
theorem vx_cls {s : State} {T : State} {vm₁ : Vm} {E : String} {k : ClassId} (hW : s.WarmedH vm₁) (h : (T.setVm vm₁).vm.findClass E = some k) : s.vm.findClass E = some k := by
  have h1 : vm₁.findClass E = some k := h
  rw [hW.alike.findClass] at h1
  exact h1
/-- the method's frame g, with q thrown over it -/
def vx_W (p : Program) (l : Launch) (e : Env) (R : Room) (s : State) (m : MethodId) (args : Array Value) (below : List Frame) (meth : Method) (c : Code) (H : Heap) (locs : List Loc) (cells slots : Nat) (Q : State → Prop) (g : JFrame) (q : Addr) : Prop :=
  ∀ T : State, T.heap = H → Stand p l e R s m args below meth c T locs cells slots → ∃ t, Steps p.tables e below ((T.setTop g).pushFrame (.throwing q)) t ∧ Q t
def vx_Run (p : Program) (l : Launch) (e : Env) (R : Room) (s : State) (m : MethodId) (args : Array Value) (below : List Frame) (meth : Method) (c : Code) (H : Heap) (locs : List Loc) (cells slots mc ms : Nat) (g : JFrame) (rest : List Value) (Qa : State → Outcome → State → Prop) (XC : String → State → State → Prop) (free : Addr → Prop) : Prop :=
  ∀ T : State, T.heap = H → Stand p l e R s m args below meth c T locs cells slots →
    (∃ (v : Option Value) (st₀ t T' : State) (L : List Loc), st₀.heap = H ∧ Stand p l e R s m args below meth c T' (locs ++ L) (cells + mc) (slots + ms) ∧ (∀ q ∈ L, free q.base) ∧ T'.heap = t.heap ∧ T'.vm = t.vm ∧ Qa st₀ (.returned v) t ∧
      Goes p e below T g T' { g with pc := g.pc + 3, stack := v.toList ++ rest }) ∨
    (∃ (q : Addr) (st₀ t T' : State) (L : List Loc) (E : String) (ce : Cell), st₀.heap = H ∧ Stand p l e R s m args below meth c T' (locs ++ L) (cells + mc) (slots + ms) ∧ (∀ z ∈ L, free z.base) ∧ T'.heap = t.heap ∧ T'.vm = t.vm ∧ XC E st₀ t ∧ t.heap[q]? = some ce ∧ ce.vm = .none ∧ s.vm.findClass E = some ce.cls ∧
      Steps p.tables e below (T.setTop g) ((T'.setTop { g with stack := rest }).pushFrame (.throwing q)))
def vx_X {S : Type} (px : S → Prop) (B : String → S → State → Prop) (A : Nat → Prop) : String → State → State → Prop := fun E st t => ∃ u : S, px u ∧ B E u t ∧ va_F A st t
section Runs
variable {p : Program} {l : Launch} {e : Env} {R : Room} {s : State} {m : MethodId} {args : Array Value} {below : List Frame} {meth : Method} {c : Code} {H : Heap} {locs : List Loc} {cells slots : Nat}
variable {y : MethodName} {bytes cc : ByteArray} {maxL nL mc ms n index : Nat} {ret : Option FieldType} {ws : List Cond} {rm : Room} {Pc : Array Value → State → Prop} {Qc : Array Value → State → Outcome → State → Prop} {XC : String → State → State → Prop} {free : Addr → Prop} {Ts : List Cond} {own C : String} {b : Addr} {As rest : List Value} {g : JFrame}
theorem vx_callBack (cb : CallB R s args own index y bytes maxL ret ws rm mc ms n) (hM : vx_Met l y ws rm Pc Qc XC mc ms free) (hbl : FrameBlind Pc) : vx_Back l R p e below s args y 3 8 (PreOf R mc ms Pc) (PostOf Qc mc ms free) (vx_Post XC mc ms free) := by
  obtain ⟨hrc, hrs, hfr, hlo, hws, hcw, -, hini, -⟩ := cb
  exact vx_back (bytes := bytes) (maxL := maxL) (ret := ret) hM hbl hrc hrs hfr hlo hws hcw (fun a' U hW => word_at hW (Or.inl (by first | rfl | simp [Cond.onTables, Cond.keeps, Cond.steady])) hini)
theorem vx_runV (S : CallFix p m c cc nL s args Ts own) (hM : vx_Met l y ws rm Pc Qc XC mc ms free) (cw : CallW R s args own C index y bytes maxL ret ws rm mc ms n) (hp : PreV s H C b Pc As)
    (hg : g.method = m) (hn : As.length = n) (hsize : g.locals.size = nL) (hstack : g.stack = As.reverse ++ .ref b :: rest) (hW : 2 * g.monitorRoom + (rest.map fun v => v.category).sum ≤ 8) (hdg : decode cc g.pc = .ok (.invokevirtual index, 3)) (hf : cells + mc ≤ R.cells ∧ slots + ms ≤ R.slots) :
    vx_Run p l e R s m args below meth c H locs cells slots mc ms g rest (Qc (Value.ref b :: As).toArray) XC free := by
  have hK : vx_Back l R p e below s args y 3 8 (PreOf R mc ms Pc) (PostOf Qc mc ms free) (vx_Post XC mc ms free) := vx_callBack cw.1 hM hp.1
  obtain ⟨⟨-, -, -, -, -, -, hcode, -, hy, hlen, hl⟩, hin, hse⟩ := cw
  obtain ⟨hx, hb, hml, ho, -⟩ := S
  obtain ⟨-, ⟨cellB, hcB, hoB, hclB⟩, hPc⟩ := hp
  intro T hT X
  rcases vx_callV X hx (C := C) (bytes := bytes) (maxL := maxL) (ret := ret) ho hl hin hse hcode hy hK (by rw [hT]; exact hcB) hoB hclB hg (hsize.trans hml.symm) (argsL := As) (rest := rest) (fun sig h => hn.trans (hlen sig h)) hstack hW (by rw [hb]; exact hdg)
    (fun vm₁ hW₁ => ⟨hf.1, hf.2, hPc (T.setVm vm₁) hT hW₁⟩) with ⟨v, vm₁, ⟨U', l2, c2, s2⟩, hW₁, X', ⟨g', mk, t, L, e1, e2, hq, h1, hL, h2, h3⟩, st⟩ | ⟨q, vm₁, ⟨U', l2, c2, s2⟩, hW₁, X', ⟨g', mk, t, L, E, ce, e1, e2, hq, hce, hcv, hcl, h1, hL, h2, h3⟩, st⟩
  · dsimp only [Pt.U, Pt.locs, Pt.cells, Pt.slots] at X' e1 e2 h1 h2 h3 st
    subst h1; subst h2; subst h3
    exact Or.inl ⟨v, (T.setVm vm₁).calling g' mk (Value.ref b :: As).toArray, t, U', L, hT, X', hL, e1, e2, hq, st⟩
  · dsimp only [Pt.U, Pt.locs, Pt.cells, Pt.slots] at X' e1 e2 h1 h2 h3 st hcl
    subst h1; subst h2; subst h3
    exact Or.inr ⟨q, (T.setVm vm₁).calling g' mk (Value.ref b :: As).toArray, t, U', L, E, ce, hT, X', hL, e1, e2, hq, hce, hcv, vx_cls hW₁ hcl, st⟩
theorem vx_runS (S : CallFix p m c cc nL s args Ts own) (hM : vx_Met l y ws rm Pc Qc XC mc ms free) (cw : CallB R s args own index y bytes maxL ret ws rm mc ms n ∧ (Cond.static y).before args s = true) (hp : PreS s H Pc As)
    (hg : g.method = m) (hn : As.length = n) (hsize : g.locals.size = nL) (hstack : g.stack = As.reverse ++ rest) (hW : 2 * g.monitorRoom + (rest.map fun v => v.category).sum ≤ 8) (hdg : decode cc g.pc = .ok (.invokestatic index, 3)) (hf : cells + mc ≤ R.cells ∧ slots + ms ≤ R.slots) :
    vx_Run p l e R s m args below meth c H locs cells slots mc ms g rest (Qc As.toArray) XC free := by
  have hK : vx_Back l R p e below s args y 3 8 (PreOf R mc ms Pc) (PostOf Qc mc ms free) (vx_Post XC mc ms free) := vx_callBack cw.1 hM hp.1
  obtain ⟨⟨-, -, -, -, -, -, hcode, hini, hy, hlen, hl⟩, hstt⟩ := cw
  obtain ⟨hx, hb, hml, ho, -⟩ := S
  intro T hT X
  rcases vx_callS X hx (bytes := bytes) (maxL := maxL) (ret := ret) ho hl hstt hini hcode hy hK hg (hsize.trans hml.symm) (argsL := As) (rest := rest) (fun sig h => hn.trans (hlen sig h)) hstack hW (by rw [hb]; exact hdg)
    (fun vm₁ hW₁ => ⟨hf.1, hf.2, hp.2 (T.setVm vm₁) hT hW₁⟩) with ⟨v, vm₁, ⟨U', l2, c2, s2⟩, hW₁, X', ⟨g', mk, t, L, e1, e2, hq, h1, hL, h2, h3⟩, st⟩ | ⟨q, vm₁, ⟨U', l2, c2, s2⟩, hW₁, X', ⟨g', mk, t, L, E, ce, e1, e2, hq, hce, hcv, hcl, h1, hL, h2, h3⟩, st⟩
  · dsimp only [Pt.U, Pt.locs, Pt.cells, Pt.slots] at X' e1 e2 h1 h2 h3 st
    subst h1; subst h2; subst h3
    exact Or.inl ⟨v, (T.setVm vm₁).calling g' mk As.toArray, t, U', L, hT, X', hL, e1, e2, hq, st⟩
  · dsimp only [Pt.U, Pt.locs, Pt.cells, Pt.slots] at X' e1 e2 h1 h2 h3 st hcl
    subst h1; subst h2; subst h3
    exact Or.inr ⟨q, (T.setVm vm₁).calling g' mk As.toArray, t, U', L, E, ce, hT, X', hL, e1, e2, hq, hce, hcv, vx_cls hW₁ hcl, st⟩
end Runs
section Rows
variable {p : Program} {l : Launch} {e : Env} {R : Room} {s : State} {m : MethodId} {args : Array Value} {below : List Frame} {meth : Method} {c : Code} {H : Heap} {locs : List Loc} {cells slots : Nat} {Q : State → Prop}
variable {mc ms : Nat} {free : Addr → Prop} {A0 A1 : Nat → Prop} {H0 : Heap} {a : Array Value} {pc : Nat} {ls : Array Slot} {st0 rest : List Value}
theorem vx_keep {st₀ t T' : State} {L : List Loc} (h0 : st₀.heap = H) (e1 : T'.heap = t.heap) (hS : va_S A0 H0 H locs) (hA : ∀ q, q < H.size → A1 q → A0 q) (hf : ∀ q, free q → A0 q) (hL : ∀ q ∈ L, free q.base) (hF : va_F A1 st₀ t) :
    H.size ≤ T'.heap.size ∧ (∀ q : Nat, q < H.size → ¬ A1 q → T'.heap[q]? = H[q]?) ∧ va_S A0 H0 T'.heap (locs ++ L) := by
  obtain ⟨hz, hk⟩ := hF
  rw [h0] at hz hk
  exact ⟨by rw [e1]; exact hz, fun q h1 h2 => by rw [e1]; exact hk q h1 h2,
    ⟨Nat.le_trans hS.1 (by rw [e1]; exact hz), fun q h1 h2 => by rw [e1, hk q (Nat.lt_of_lt_of_le h1 hS.1) (fun z => h2 (hA q (Nat.lt_of_lt_of_le h1 hS.1) z))]; exact hS.2.1 q h1 h2, fun q hq => by
      rcases List.mem_append.mp hq with h | h
      · exact hS.2.2 q h
      · exact hf _ (hL q h)⟩⟩
theorem vx_calli {S SX : Type} {post : Int32 → S → Prop} {px : SX → Prop} {B : S → State → Prop} {BX : String → SX → State → Prop} {AX : Nat → Prop} (hr : vx_Run p l e R s m args below meth c H locs cells slots mc ms (F0 m pc ls st0) rest (va_Qi post B A1 a) (vx_X px BX AX) free) (hS : va_S A0 H0 H locs) (hA : ∀ q, q < H.size → A1 q → A0 q) (hf : ∀ q, free q → A0 q) (hAX : ∀ q, q < H.size → AX q → A0 q)
    (kx : ∀ (E : String) (ce : Cell) (q9 : Addr) (u : SX) (t : State) (H1 : Heap) (locs1 : List Loc), t.heap = H1 → s.vm.Alike t.vm → px u → BX E u t → H.size ≤ H1.size → (∀ q : Nat, q < H.size → ¬ AX q → H1[q]? = H[q]?) → va_S A0 H0 H1 locs1 → H1[q9]? = some ce → ce.vm = .none → s.vm.findClass E = some ce.cls → vx_W p l e R s m args below meth c H1 locs1 (cells + mc) (slots + ms) Q (F0 m pc ls rest) q9)
    (kk : ∀ (r : Int32) (u : S) (t : State) (H1 : Heap) (locs1 : List Loc), t.heap = H1 → s.vm.Alike t.vm → post r u → B u t → H.size ≤ H1.size → (∀ q : Nat, q < H.size → ¬ A1 q → H1[q]? = H[q]?) → va_S A0 H0 H1 locs1 → W p l e R s m args below meth c H1 locs1 (cells + mc) (slots + ms) Q (F0 m (pc + 3) ls (.int r :: rest))) : W p l e R s m args below meth c H locs cells slots Q (F0 m pc ls st0) := by
  intro T hT X
  rcases hr T hT X with ⟨v, st₀, t, T', L, h0, X', hL, e1, e2, ⟨⟨r, u, hv, hp, hb⟩, hF⟩, st⟩ | ⟨q, st₀, t, T', L, E, ce, h0, X', hL, e1, e2, ⟨u, hp, hb, hF⟩, hce, hcv, hcl, st⟩
  · cases hv
    obtain ⟨k1, k2, k3⟩ := vx_keep h0 e1 hS hA hf hL hF
    obtain ⟨t2, a1, b1⟩ := kk r u t T'.heap (locs ++ L) e1.symm (by rw [← e2]; exact X'.warmed.alike) hp hb k1 k2 k3 T' rfl X'
    exact ⟨t2, st t2 a1, b1⟩
  · obtain ⟨k1, k2, k3⟩ := vx_keep h0 e1 hS hAX hf hL hF
    obtain ⟨t2, a1, b1⟩ := kx E ce q u t T'.heap (locs ++ L) e1.symm (by rw [← e2]; exact X'.warmed.alike) hp hb k1 k2 k3 (by rw [e1]; exact hce) hcv hcl T' rfl X'
    exact ⟨t2, st.trans a1, b1⟩
theorem vx_calll {S SX : Type} {post : Int64 → S → Prop} {px : SX → Prop} {B : S → State → Prop} {BX : String → SX → State → Prop} {AX : Nat → Prop} (hr : vx_Run p l e R s m args below meth c H locs cells slots mc ms (F0 m pc ls st0) rest (va_Ql post B A1 a) (vx_X px BX AX) free) (hS : va_S A0 H0 H locs) (hA : ∀ q, q < H.size → A1 q → A0 q) (hf : ∀ q, free q → A0 q) (hAX : ∀ q, q < H.size → AX q → A0 q)
    (kx : ∀ (E : String) (ce : Cell) (q9 : Addr) (u : SX) (t : State) (H1 : Heap) (locs1 : List Loc), t.heap = H1 → s.vm.Alike t.vm → px u → BX E u t → H.size ≤ H1.size → (∀ q : Nat, q < H.size → ¬ AX q → H1[q]? = H[q]?) → va_S A0 H0 H1 locs1 → H1[q9]? = some ce → ce.vm = .none → s.vm.findClass E = some ce.cls → vx_W p l e R s m args below meth c H1 locs1 (cells + mc) (slots + ms) Q (F0 m pc ls rest) q9)
    (kk : ∀ (r : Int64) (u : S) (t : State) (H1 : Heap) (locs1 : List Loc), t.heap = H1 → s.vm.Alike t.vm → post r u → B u t → H.size ≤ H1.size → (∀ q : Nat, q < H.size → ¬ A1 q → H1[q]? = H[q]?) → va_S A0 H0 H1 locs1 → W p l e R s m args below meth c H1 locs1 (cells + mc) (slots + ms) Q (F0 m (pc + 3) ls (.long r :: rest))) : W p l e R s m args below meth c H locs cells slots Q (F0 m pc ls st0) := by
  intro T hT X
  rcases hr T hT X with ⟨v, st₀, t, T', L, h0, X', hL, e1, e2, ⟨⟨r, u, hv, hp, hb⟩, hF⟩, st⟩ | ⟨q, st₀, t, T', L, E, ce, h0, X', hL, e1, e2, ⟨u, hp, hb, hF⟩, hce, hcv, hcl, st⟩
  · cases hv
    obtain ⟨k1, k2, k3⟩ := vx_keep h0 e1 hS hA hf hL hF
    obtain ⟨t2, a1, b1⟩ := kk r u t T'.heap (locs ++ L) e1.symm (by rw [← e2]; exact X'.warmed.alike) hp hb k1 k2 k3 T' rfl X'
    exact ⟨t2, st t2 a1, b1⟩
  · obtain ⟨k1, k2, k3⟩ := vx_keep h0 e1 hS hAX hf hL hF
    obtain ⟨t2, a1, b1⟩ := kx E ce q u t T'.heap (locs ++ L) e1.symm (by rw [← e2]; exact X'.warmed.alike) hp hb k1 k2 k3 (by rw [e1]; exact hce) hcv hcl T' rfl X'
    exact ⟨t2, st.trans a1, b1⟩
theorem vx_callf {S SX : Type} {post : UInt32 → S → Prop} {px : SX → Prop} {B : S → State → Prop} {BX : String → SX → State → Prop} {AX : Nat → Prop} (hr : vx_Run p l e R s m args below meth c H locs cells slots mc ms (F0 m pc ls st0) rest (va_Qf post B A1 a) (vx_X px BX AX) free) (hS : va_S A0 H0 H locs) (hA : ∀ q, q < H.size → A1 q → A0 q) (hf : ∀ q, free q → A0 q) (hAX : ∀ q, q < H.size → AX q → A0 q)
    (kx : ∀ (E : String) (ce : Cell) (q9 : Addr) (u : SX) (t : State) (H1 : Heap) (locs1 : List Loc), t.heap = H1 → s.vm.Alike t.vm → px u → BX E u t → H.size ≤ H1.size → (∀ q : Nat, q < H.size → ¬ AX q → H1[q]? = H[q]?) → va_S A0 H0 H1 locs1 → H1[q9]? = some ce → ce.vm = .none → s.vm.findClass E = some ce.cls → vx_W p l e R s m args below meth c H1 locs1 (cells + mc) (slots + ms) Q (F0 m pc ls rest) q9)
    (kk : ∀ (r : UInt32) (u : S) (t : State) (H1 : Heap) (locs1 : List Loc), t.heap = H1 → s.vm.Alike t.vm → post r u → B u t → H.size ≤ H1.size → (∀ q : Nat, q < H.size → ¬ A1 q → H1[q]? = H[q]?) → va_S A0 H0 H1 locs1 → W p l e R s m args below meth c H1 locs1 (cells + mc) (slots + ms) Q (F0 m (pc + 3) ls (.float r :: rest))) : W p l e R s m args below meth c H locs cells slots Q (F0 m pc ls st0) := by
  intro T hT X
  rcases hr T hT X with ⟨v, st₀, t, T', L, h0, X', hL, e1, e2, ⟨⟨r, u, hv, hp, hb⟩, hF⟩, st⟩ | ⟨q, st₀, t, T', L, E, ce, h0, X', hL, e1, e2, ⟨u, hp, hb, hF⟩, hce, hcv, hcl, st⟩
  · cases hv
    obtain ⟨k1, k2, k3⟩ := vx_keep h0 e1 hS hA hf hL hF
    obtain ⟨t2, a1, b1⟩ := kk r u t T'.heap (locs ++ L) e1.symm (by rw [← e2]; exact X'.warmed.alike) hp hb k1 k2 k3 T' rfl X'
    exact ⟨t2, st t2 a1, b1⟩
  · obtain ⟨k1, k2, k3⟩ := vx_keep h0 e1 hS hAX hf hL hF
    obtain ⟨t2, a1, b1⟩ := kx E ce q u t T'.heap (locs ++ L) e1.symm (by rw [← e2]; exact X'.warmed.alike) hp hb k1 k2 k3 (by rw [e1]; exact hce) hcv hcl T' rfl X'
    exact ⟨t2, st.trans a1, b1⟩
theorem vx_calld {S SX : Type} {post : UInt64 → S → Prop} {px : SX → Prop} {B : S → State → Prop} {BX : String → SX → State → Prop} {AX : Nat → Prop} (hr : vx_Run p l e R s m args below meth c H locs cells slots mc ms (F0 m pc ls st0) rest (va_Qd post B A1 a) (vx_X px BX AX) free) (hS : va_S A0 H0 H locs) (hA : ∀ q, q < H.size → A1 q → A0 q) (hf : ∀ q, free q → A0 q) (hAX : ∀ q, q < H.size → AX q → A0 q)
    (kx : ∀ (E : String) (ce : Cell) (q9 : Addr) (u : SX) (t : State) (H1 : Heap) (locs1 : List Loc), t.heap = H1 → s.vm.Alike t.vm → px u → BX E u t → H.size ≤ H1.size → (∀ q : Nat, q < H.size → ¬ AX q → H1[q]? = H[q]?) → va_S A0 H0 H1 locs1 → H1[q9]? = some ce → ce.vm = .none → s.vm.findClass E = some ce.cls → vx_W p l e R s m args below meth c H1 locs1 (cells + mc) (slots + ms) Q (F0 m pc ls rest) q9)
    (kk : ∀ (r : UInt64) (u : S) (t : State) (H1 : Heap) (locs1 : List Loc), t.heap = H1 → s.vm.Alike t.vm → post r u → B u t → H.size ≤ H1.size → (∀ q : Nat, q < H.size → ¬ A1 q → H1[q]? = H[q]?) → va_S A0 H0 H1 locs1 → W p l e R s m args below meth c H1 locs1 (cells + mc) (slots + ms) Q (F0 m (pc + 3) ls (.double r :: rest))) : W p l e R s m args below meth c H locs cells slots Q (F0 m pc ls st0) := by
  intro T hT X
  rcases hr T hT X with ⟨v, st₀, t, T', L, h0, X', hL, e1, e2, ⟨⟨r, u, hv, hp, hb⟩, hF⟩, st⟩ | ⟨q, st₀, t, T', L, E, ce, h0, X', hL, e1, e2, ⟨u, hp, hb, hF⟩, hce, hcv, hcl, st⟩
  · cases hv
    obtain ⟨k1, k2, k3⟩ := vx_keep h0 e1 hS hA hf hL hF
    obtain ⟨t2, a1, b1⟩ := kk r u t T'.heap (locs ++ L) e1.symm (by rw [← e2]; exact X'.warmed.alike) hp hb k1 k2 k3 T' rfl X'
    exact ⟨t2, st t2 a1, b1⟩
  · obtain ⟨k1, k2, k3⟩ := vx_keep h0 e1 hS hAX hf hL hF
    obtain ⟨t2, a1, b1⟩ := kx E ce q u t T'.heap (locs ++ L) e1.symm (by rw [← e2]; exact X'.warmed.alike) hp hb k1 k2 k3 (by rw [e1]; exact hce) hcv hcl T' rfl X'
    exact ⟨t2, st.trans a1, b1⟩
theorem vx_callv {S SX : Type} {post : S → Prop} {px : SX → Prop} {B : S → State → Prop} {BX : String → SX → State → Prop} {AX : Nat → Prop} (hr : vx_Run p l e R s m args below meth c H locs cells slots mc ms (F0 m pc ls st0) rest (va_Qv post B A1 a) (vx_X px BX AX) free) (hS : va_S A0 H0 H locs) (hA : ∀ q, q < H.size → A1 q → A0 q) (hf : ∀ q, free q → A0 q) (hAX : ∀ q, q < H.size → AX q → A0 q)
    (kx : ∀ (E : String) (ce : Cell) (q9 : Addr) (u : SX) (t : State) (H1 : Heap) (locs1 : List Loc), t.heap = H1 → s.vm.Alike t.vm → px u → BX E u t → H.size ≤ H1.size → (∀ q : Nat, q < H.size → ¬ AX q → H1[q]? = H[q]?) → va_S A0 H0 H1 locs1 → H1[q9]? = some ce → ce.vm = .none → s.vm.findClass E = some ce.cls → vx_W p l e R s m args below meth c H1 locs1 (cells + mc) (slots + ms) Q (F0 m pc ls rest) q9)
    (kk : ∀ (u : S) (t : State) (H1 : Heap) (locs1 : List Loc), t.heap = H1 → s.vm.Alike t.vm → post u → B u t → H.size ≤ H1.size → (∀ q : Nat, q < H.size → ¬ A1 q → H1[q]? = H[q]?) → va_S A0 H0 H1 locs1 → W p l e R s m args below meth c H1 locs1 (cells + mc) (slots + ms) Q (F0 m (pc + 3) ls (rest))) : W p l e R s m args below meth c H locs cells slots Q (F0 m pc ls st0) := by
  intro T hT X
  rcases hr T hT X with ⟨v, st₀, t, T', L, h0, X', hL, e1, e2, ⟨⟨u, hv, hp, hb⟩, hF⟩, st⟩ | ⟨q, st₀, t, T', L, E, ce, h0, X', hL, e1, e2, ⟨u, hp, hb, hF⟩, hce, hcv, hcl, st⟩
  · cases hv
    obtain ⟨k1, k2, k3⟩ := vx_keep h0 e1 hS hA hf hL hF
    obtain ⟨t2, a1, b1⟩ := kk u t T'.heap (locs ++ L) e1.symm (by rw [← e2]; exact X'.warmed.alike) hp hb k1 k2 k3 T' rfl X'
    exact ⟨t2, st t2 a1, b1⟩
  · obtain ⟨k1, k2, k3⟩ := vx_keep h0 e1 hS hAX hf hL hF
    obtain ⟨t2, a1, b1⟩ := kx E ce q u t T'.heap (locs ++ L) e1.symm (by rw [← e2]; exact X'.warmed.alike) hp hb k1 k2 k3 (by rw [e1]; exact hce) hcv hcl T' rfl X'
    exact ⟨t2, st.trans a1, b1⟩
/-- caught by the row x of this method's table; the rows ahead don't take it -/
theorem vx_catch {own name : String} {E : String} {ce : Cell} {q : Addr} (hown : s.vm.findClass own = some m.cls) (pre : List ExceptionTableEntry) (x : ExceptionTableEntry) (suf : List ExceptionTableEntry) (hsplit : c.exceptionTable.toList = pre ++ x :: suf)
    (hpass : ∀ z ∈ pre, covers z pc = false ∨ (z.catchType ≠ 0 ∧ ∃ nm : String, (Cond.classLink own z.catchType nm).before args s = true ∧ va_Nc E nm s)) (hx : covers x pc = true) (h0 : x.catchType ≠ 0)
    (hlink : (Cond.classLink own x.catchType name).before args s = true) (hcast : (Cond.castable E name).before args s = true) (hcell : H[q]? = some ce) (hv : ce.vm = .none) (hcl : s.vm.findClass E = some ce.cls)
    (kk : W p l e R s m args below meth c H locs cells slots Q (F0 m x.handlerPc ls [.ref q])) : vx_W p l e R s m args below meth c H locs cells slots Q (F0 m pc ls rest) q := by
  intro T hT X
  have hpl : e.platform.magicAccessors = ({} : Platform).magicAccessors := by rw [X.admits.platform]
  obtain ⟨c3, c4, hc3, hc4, hasg⟩ := Cond.castable_spec hcast
  cases Option.some.inj (hc3.symm.trans hcl)
  obtain ⟨c5, hc5, hcl5⟩ := Cond.classLink_spec hown hlink e.platform hpl
  cases Option.some.inj (hc4.symm.trans hc5)
  obtain ⟨vm', X', st⟩ := X.thenCaughtThrough q (g := F0 m pc ls rest) rfl (Steps.refl _) (by rw [hT]; exact hcell) (by rw [hv]; rfl) (by obtain ⟨k9, h9, -⟩ := Vm.findClass_spec hcl; exact ⟨k9, h9⟩) pre x suf hsplit
    (fun z hz => by
      rcases hpass z hz with h | ⟨hz0, nm, hl1, hn1⟩
      · exact Or.inl h
      · obtain ⟨c6, hc6, hcl6⟩ := Cond.classLink_spec hown hl1 e.platform hpl
        obtain ⟨a8, b8, h1, h2, h3⟩ := hn1
        cases Option.some.inj (h1.symm.trans hcl)
        cases Option.some.inj (h2.symm.trans hc6)
        exact Or.inr ⟨hz0, _, hcl6, h3⟩) hx (Or.inr ⟨h0, c4, hcl5, hasg⟩)
  obtain ⟨t, a1, b1⟩ := kk (T.setVm vm') hT X'
  exact ⟨t, st.trans a1, b1⟩
end Rows
section Ends
variable {p : Program} {l : Launch} {e : Env} {R : Room} {s : State} {m : MethodId} {args : Array Value} {below : List Frame} {meth : Method} {c : Code} {H : Heap} {locs : List Loc} {cells slots : Nat} {Q : State → Prop}
variable {mc ms : Nat} {free : Addr → Prop} {A0 A1 : Nat → Prop} {H0 : Heap} {a : Array Value} {ls : Array Slot} {st0 rest : List Value}
variable {Qc : Array Value → State → Outcome → State → Prop} {XC : String → State → State → Prop}
/-- what a body that may throw owes at its end -/
def vx_MQ (below : List Frame) (Qc : Array Value → State → Outcome → State → Prop) (XC : String → State → State → Prop) (a : Array Value) (s : State) (mc ms : Nat) (free : Addr → Prop) : State → Prop := fun t =>
  ∃ o, t.status = .running ∧ Ended t below o ∧ vx_Q Qc XC mc ms free a s o t
theorem vx_ret {g : JFrame} {mc ms : Nat} (k : W p l e R s m args below meth c H locs cells slots (MQ below Qc args s mc ms free) g) : W p l e R s m args below meth c H locs cells slots (vx_MQ below Qc XC args s mc ms free) g := by
  intro T hT X
  obtain ⟨t, a1, o, b1, b2, b3, b4⟩ := k T hT X
  exact ⟨t, a1, o, b1, b2, Or.inl ⟨b3, b4⟩⟩
/-- not caught here: it goes on to the caller -/
theorem vx_widen {g : JFrame} {q : Addr} {k n : Nat} (h1 : cells ≤ k) (h2 : slots ≤ n) (kk : vx_W p l e R s m args below meth c H locs k n Q g q) : vx_W p l e R s m args below meth c H locs cells slots Q g q := fun T hT X => kk T hT (stand_widen X h1 h2)
theorem vx_out {pc : Nat} {E : String} {ce : Cell} {q : Addr} {mc ms : Nat} (hout : ∀ x ∈ c.exceptionTable.toList, covers x pc = false) (hlocks : meth.locks = false) (hcell : H[q]? = some ce) (hv : ce.vm = .none) (hcl : s.vm.findClass E = some ce.cls)
    (hx : ∀ t : State, t.heap = H → s.vm.Alike t.vm → XC E s t) (hf : ∀ z ∈ locs, free z.base) (hc : cells ≤ mc) (hs : slots ≤ ms) :
    vx_W p l e R s m args below meth c H locs cells slots (vx_MQ below Qc XC args s mc ms free) (F0 m pc ls rest) q := by
  intro T hT X
  obtain ⟨st1, hrun, hend, hW, hsm⟩ := X.leaveThrown q (g := F0 m pc ls rest) rfl rfl rfl hout hlocks
  have hcell9 : (T.setFrames (.throwing q :: below)).heap[q]? = some ce := by
    show T.heap[q]? = some ce
    rw [hT]; exact hcell
  exact ⟨_, st1, .threw q, hrun, hend, Or.inr ⟨q, rfl, E, ce, locs, hx _ hT hW.alike, hcell9, hv, hcl, hW, hsm.mono hc hs, hf⟩⟩
theorem vx_frame {U : State} {k n : Nat} (h : s.sameButNew ({ U with vm := s.vm } : State) locs k n) : s.heap.size ≤ U.heap.size ∧ ∀ q : Nat, q < s.heap.size → (∀ z ∈ locs, z.base ≠ q) → U.heap[q]? = s.heap[q]? := by
  obtain ⟨-, h2, -, -, -, h6⟩ := h
  refine ⟨h2, fun q hq hz => ?_⟩
  obtain ⟨c9, e1, e2, e3, e4⟩ := h6 q _ (Array.getElem?_eq_getElem hq)
  have hs : c9.slots = (s.heap[q]).slots := Array.ext_getElem? fun i => e4 i fun hm => hz _ hm rfl
  have h9 : c9 = s.heap[q] := by
    rw [hs] at e2
    exact e2
  have e5 : U.heap[q]? = some c9 := e1
  rw [e5, h9, Array.getElem?_eq_getElem hq]
/-- the words of a throw but the four that speak of the heap -/
def vx_no (w : Cond) : Bool := decide (w ≠ .isRef (.static Bundle.tN "UNASSIGNED_STACK" Bundle.steD)) && decide (w ≠ .isRef (.static Bundle.tN "SUPPRESSED_SENTINEL" Bundle.listD)) && decide (w ≠ .laysStatic Bundle.tN "UNASSIGNED_STACK" Bundle.steD) && decide (w ≠ .laysStatic Bundle.tN "SUPPRESSED_SENTINEL" Bundle.listD)
def vx_at0 (own : String) (ic : Nat) (X : String) (names : List String) : List Cond := (Bundle.ownAtoms0 own ic X names).filter vx_no
def vx_atS (own : String) (ic : Nat) (X : String) (names : List String) : List Cond := (Bundle.ownAtoms own ic X names).filter vx_no
/-- a word that the tables alone decide, or a good one -/
def vx_ot (w : Cond) : Bool := w.onTables || goodWord w
theorem vx_ot_at {args a' : Array Value} {s U : State} {w : Cond} (hW : s.WarmedH U.vm) (hvm : s.vm = U.vm) (hg : vx_ot w = true) (h : w.before args s = true) : w.before a' U = true := by
  simp only [vx_ot, Bool.or_eq_true] at hg
  rcases hg with hg | hg
  · exact va_tabs hg hvm h
  · exact word_at hW (good_of_word hg) h
/-- a list's words: the good ones out of the method's own list, the others by premises of their own -/
theorem vx_hat {args : Array Value} {s : State} {L B : List Cond} (h1 : ∀ w ∈ L.filter goodWord, w.before args s = true) (h2 : ∀ w ∈ L.filter (fun w => !goodWord w), w ∈ B) (h3 : ∀ w ∈ B, w.before args s = true) : ∀ w ∈ L, w.before args s = true := by
  intro w hw
  by_cases g : goodWord w = true
  · exact h1 w (List.mem_filter.mpr ⟨hw, g⟩)
  · refine h3 w (h2 w (List.mem_filter.mpr ⟨hw, ?_⟩))
    show (!goodWord w) = true
    cases hgw : goodWord w
    · rfl
    · exact absurd hgw g
theorem vx_c {args : Array Value} {s : State} {w : Cond} {B : List Cond} (h : w.before args s = true) (t : ∀ w ∈ B, w.before args s = true) : ∀ w' ∈ w :: B, w'.before args s = true := fun w' h' => (List.mem_cons.mp h').elim (fun e => by rw [e]; exact h) (t w')
theorem vx_n {args : Array Value} {s : State} : ∀ w ∈ ([] : List Cond), w.before args s = true := fun _ h => nomatch h
theorem vx_own {args : Array Value} {s : State} {L : List Cond} (h1 : ∀ w ∈ L.filter vx_no, w.before args s = true)
    (hU : (Cond.isRef (.static Bundle.tN "UNASSIGNED_STACK" Bundle.steD)).before args s = true) (hN : (Cond.isRef (.static Bundle.tN "SUPPRESSED_SENTINEL" Bundle.listD)).before args s = true)
    (lU : (Cond.laysStatic Bundle.tN "UNASSIGNED_STACK" Bundle.steD).before args s = true) (lN : (Cond.laysStatic Bundle.tN "SUPPRESSED_SENTINEL" Bundle.listD).before args s = true) : ∀ w ∈ L, w.before args s = true := by
  intro w hw
  by_cases e1 : w = .isRef (.static Bundle.tN "UNASSIGNED_STACK" Bundle.steD)
  · rw [e1]; exact hU
  · by_cases e2 : w = .isRef (.static Bundle.tN "SUPPRESSED_SENTINEL" Bundle.listD)
    · rw [e2]; exact hN
    · by_cases e3 : w = .laysStatic Bundle.tN "UNASSIGNED_STACK" Bundle.steD
      · rw [e3]; exact lU
      · by_cases e4 : w = .laysStatic Bundle.tN "SUPPRESSED_SENTINEL" Bundle.listD
        · rw [e4]; exact lN
        · exact h1 w (List.mem_filter.mpr ⟨hw, by unfold vx_no; rw [decide_eq_true e1, decide_eq_true e2, decide_eq_true e3, decide_eq_true e4]; rfl⟩)
/-- where a static field lies, its class's statics cell in H -/
def vx_L (C n d : String) (A : Nat → Prop) (U : State) (H : Heap) : Prop := ∃ (c : ClassId) (k : Class) (i : Nat) (f : Field) (a : Nat) (cell : Cell), U.vm.findClass C = some c ∧ U.fieldFound? C n d = some (c, k, i, f) ∧ f.isStatic = true ∧ k.statics = some a ∧ H[a]? = some cell ∧ cell.vm.isStatics = true ∧ cell.cls = c ∧ f.slot < cell.slots.size ∧ k.staticTypes[f.slot]? = some f.type ∧ ¬ A a
theorem vx_L.moved {C n d : String} {A : Nat → Prop} {u U : State} {H : Heap} (hvm : u.vm.Alike U.vm) (h : vx_L C n d A u H) : vx_L C n d A U H := by
  obtain ⟨c, k, i, f, a, cell, h1, h2, h3, h4, h5, h6, h7, h8, h9, h10⟩ := h
  obtain ⟨k', hi', he⟩ := State.fieldFound?_setVm hvm h2
  exact ⟨c, k', i, f, a, cell, by rw [hvm.findClass]; exact h1, hi', h3, by rw [he]; exact h4, h5, h6, h7, h8, by rw [he]; exact h9, h10⟩
theorem vx_L.kept {C n d : String} {A : Nat → Prop} {U : State} {H H1 : Heap} (h : vx_L C n d A U H) (hq : ∀ a : Nat, a < H.size → ¬ A a → H1[a]? = H[a]?) : vx_L C n d A U H1 := by
  obtain ⟨c, k, i, f, a, cell, h1, h2, h3, h4, h5, h6, h7, h8, h9, h10⟩ := h
  exact ⟨c, k, i, f, a, cell, h1, h2, h3, h4, by rw [hq a (Array.getElem?_eq_some_iff.mp h5).1 h10]; exact h5, h6, h7, h8, h9, h10⟩
theorem vx_L.narrow {C n d : String} {A B : Nat → Prop} {U : State} {H : Heap} (h : vx_L C n d A U H) (hAB : ∀ q, B q → A q) : vx_L C n d B U H := by
  obtain ⟨c, k, i, f, a, cell, h1, h2, h3, h4, h5, h6, h7, h8, h9, h10⟩ := h
  exact ⟨c, k, i, f, a, cell, h1, h2, h3, h4, h5, h6, h7, h8, h9, fun z => h10 (hAB _ z)⟩
theorem vx_L.word {C n d : String} {A : Nat → Prop} {s : State} {args : Array Value} (h : vx_L C n d A s s.heap) : (Cond.laysStatic C n d).before args s = true := by
  obtain ⟨c, k, i, f, a, cell, h1, h2, h3, h4, h5, h6, h7, h8, h9, -⟩ := h
  show (Cond.laysStatic C n d).holds args s none s [] = true
  exact Cond.laysStatic_of h1 h2 h3 h4 h5 h6 h7 h8 h9
/-- .. and what it holds: null or some reference -/
def vx_Zq (C n d : String) (A : Nat → Prop) (U : State) (H : Heap) : Prop := va_Zq C n d A U H ∧ vx_L C n d A U H
theorem vx_Zq.moved {C n d : String} {A : Nat → Prop} {u U : State} {H : Heap} (hvm : u.vm.Alike U.vm) (h : vx_Zq C n d A u H) : vx_Zq C n d A U H := ⟨va_Zq.moved hvm h.1, vx_L.moved hvm h.2⟩
theorem vx_Zq.kept {C n d : String} {A : Nat → Prop} {U : State} {H H1 : Heap} (h : vx_Zq C n d A U H) (hq : ∀ a : Nat, a < H.size → ¬ A a → H1[a]? = H[a]?) : vx_Zq C n d A U H1 := ⟨va_Zq.kept h.1 hq, vx_L.kept h.2 hq⟩
theorem vx_Zq.narrow {C n d : String} {A B : Nat → Prop} {U : State} {H : Heap} (h : vx_Zq C n d A U H) (hAB : ∀ q, B q → A q) : vx_Zq C n d B U H := ⟨va_Zq.narrow h.1 hAB, vx_L.narrow h.2 hAB⟩
theorem vx_Zqof {args : Array Value} {s : State} {C n d : String} {A : Nat → Prop} (hl : (Cond.laysStatic C n d).before args s = true) (hini : (Cond.initialized C).before args s = true) (h : (Cond.isRef (.static C n d)).before args s = true) (hA : ∀ a : Nat, a < s.heap.size → ¬ A a) : vx_Zq C n d A s s.heap := by
  refine ⟨va_Zqof hl hini h hA, ?_⟩
  obtain ⟨c, k, i, f, a, cell, h1, h2, h3, h4, h5, h6, h7, h8, h9⟩ := Cond.laysStatic_spec hl
  exact ⟨c, k, i, f, a, cell, h1, h2, h3, h4, h5, h6, h7, h8, h9, hA a (Array.getElem?_eq_some_iff.mp h5).1⟩
theorem vx_isRef {C n d : String} {v : Value} {A : Nat → Prop} {s : State} {args : Array Value} (h : va_Z C n d v A s s.heap) (hv : v.isRef = true) : (Cond.isRef (.static C n d)).before args s = true := by
  obtain ⟨cf, kf, fi, f, a, cell, h1, h2, h3, h4, h5, h6, h7, -⟩ := h
  have he : (Term.static C n d).eval args s none [] s = some v := by
    simp [Term.eval, State.fieldNamed?, h1, h2, h4, h5, h6, h7]
  simp only [Cond.before, Cond.holds, Cond.value, he]
  cases v <;> simp_all [Value.isRef]
theorem vx_isRefq {C n d : String} {A : Nat → Prop} {s : State} {args : Array Value} (h : va_Zq C n d A s s.heap) : (Cond.isRef (.static C n d)).before args s = true := by
  rcases h with h | ⟨t, h⟩
  · exact vx_isRef h rfl
  · exact vx_isRef h rfl
/-- the same frame, seen from here: as if the method were called anew in this heap -/
theorem vx_rebase {T : State} (X : Stand p l e R s m args below meth c T locs cells slots) {R' : Room} (hf : R'.frames ≤ R.frames) (hl : R'.locals ≤ R.locals) (hc : cells + R'.cells ≤ R.cells) (hs : slots + R'.slots ≤ R.slots) :
    Stand p l e R' ((T.setVm s.vm).setFrames (.invoking m args :: below)) m args below meth c T [] 0 0 := by
  have htop : (T.setVm s.vm).topJava?.isSome := X.here.top
  have hF : ((T.setVm s.vm).setFrames (.invoking m args :: below)).frames = .invoking m args :: below := State.frames_setFrames _ (State.cur_lt_of_top htop)
  obtain ⟨g₀, hg0⟩ := Option.isSome_iff_exists.mp htop
  obtain ⟨r, hr⟩ := State.topJava?_eq_some.mp hg0
  have hl9 : e.platform.stackLimits (T.setVm s.vm).me = e.platform.stackLimits s.me := X.limits
  have hb9 : (T.setVm s.vm).me.stackBytes = s.me.stackBytes := X.bytes
  refine ⟨X.admits, X.cas, X.clock, hF, ?_, X.hears, X.method, X.code, X.here, X.tail, X.warmed, ?_, ?_, ?_⟩
  · have h := X.room
    have hU : ((T.setVm s.vm).setFrames (.invoking m args :: below)).localsInUse = s.localsInUse := by
      rw [State.localsInUse_invoking hF (meth := meth) (c := c) X.method X.code, State.localsInUse_invoking X.frames X.method X.code]
    simp only [State.hasRoom, Bool.and_eq_true, decide_eq_true_eq] at h ⊢
    obtain ⟨⟨⟨⟨h1, h2, h3, h4, h5, h6⟩, h7⟩, h8⟩, h9⟩ := h
    rw [X.frames, List.length_cons] at h2 h3
    have q1 := X.heapSize
    have q2 := X.used
    simp only [hF, hU, List.length_cons, State.stackLimits_setFrames, State.stackBytes_setFrames, hl9, hb9]
    refine ⟨⟨⟨⟨by omega, by omega, by omega, by omega, by omega, h6⟩, ?_⟩, ?_⟩, X.book⟩
    · show T.heap.size + R'.cells ≤ e.platform.maxCells
      omega
    · show T.slotsUsed + R'.slots ≤ e.platform.maxSlots
      omega
  · rw [State.stackLimits_setFrames]; rfl
  · rw [State.stackBytes_setFrames]; rfl
  · refine ⟨?_, Nat.le_refl _, Nat.le_refl _, ?_, ?_, fun a c9 h9 => ⟨c9, h9, rfl, rfl, fun _ _ => rfl⟩⟩
    · obtain ⟨t, ht, -⟩ := State.frames_cons hr
      show T.setVm s.vm = { ((T.setVm s.vm).setFrames (.invoking m args :: below)).setFrames (T.setVm s.vm).frames with heap := T.heap, slotsUsed := T.slotsUsed }
      rw [State.setFrames_setFrames, State.setFrames_self ht]
      rfl
    · show T.slotsUsed = T.slotsUsed + ((T.heap.toList.drop T.heap.size).map (·.slots.size)).sum
      rw [List.drop_eq_nil_of_le (Nat.le_of_eq Array.length_toList)]
      rfl
    · show ((T.heap.toList.drop T.heap.size).map (·.slots.size)).sum ≤ 0
      rw [List.drop_eq_nil_of_le (Nat.le_of_eq Array.length_toList)]
      exact Nat.le_refl _
/-- 'throw new E()': new; dup; invokespecial; athrow -/
theorem vx_throw0 {cc : ByteArray} {pc : Nat} (hexec : p.tables.exec = Jvm.exec) (hb : c.code = cc) (hl : l.stackTraces = false) {own cls : String} {names : List String} {ik ic mc ms : Nat} {A : Nat → Prop}
    (hown : s.vm.findClass own = some m.cls) (hcls : Bundle.fit cls = true) (hnames : ∀ n ∈ names, Bundle.fit n = true)
    (hk : (Cond.classLink own ik cls).before args s = true) (hini : (Cond.initialized cls).before args s = true) (hat : ∀ w ∈ vx_at0 own ic cls names, w.before args s = true)
    (hgood : ∀ w ∈ Cond.classLink own ik cls :: Cond.initialized cls :: vx_at0 own ic cls names, vx_ot w = true)
    (hU : vx_Zq Bundle.tN "UNASSIGNED_STACK" Bundle.steD A s s.heap) (hN : vx_Zq Bundle.tN "SUPPRESSED_SENTINEL" Bundle.listD A s s.heap) (hS : va_S A s.heap H locs) (hsize : ls.size = c.maxLocals)
    (d0 : decode cc pc = .ok (.new ik, 3)) (d3 : decode cc (pc + 3) = .ok (.dup, 1)) (d4 : decode cc (pc + 4) = .ok (.invokespecial ic, 3)) (d7 : decode cc (pc + 7) = .ok (.athrow, 1))
    (hout : ∀ x ∈ c.exceptionTable.toList, covers x (pc + 7) = false)
    (hRframes : names.length + 3 < R.frames) (hRlocals : (rest.map fun v => v.category).sum + (13 * (names.length + 1) + 42) ≤ R.locals) (hRcells : cells + 1 ≤ R.cells) (hRslots : slots + 6 ≤ R.slots) (hlocks : meth.locks = false)
    (hx : ∀ t : State, s.vm.Alike t.vm → H.size ≤ t.heap.size → (∀ q : Nat, q < H.size → t.heap[q]? = H[q]?) → XC cls s t)
    (hf : ∀ z ∈ locs, free z.base) (hc : cells + 1 ≤ mc) (hs : slots + 6 ≤ ms) :
    W p l e R s m args below meth c H locs cells slots (vx_MQ below Qc XC args s mc ms free) (F0 m pc ls rest) := by
  intro T hT X
  have htr : e.platform.stackTraces = false := (show e.platform.stackTraces = l.stackTraces by rw [X.admits.platform]).trans hl
  have Y := vx_rebase X (R' := { frames := R.frames, locals := R.locals, cells := 1, slots := 6 }) (Nat.le_refl _) (Nat.le_refl _) hRcells hRslots
  obtain ⟨s', hA⟩ : ∃ z, z = (T.setVm s.vm).setFrames (.invoking m args :: below) := ⟨_, rfl⟩
  rw [← hA] at Y
  have hvm : s'.vm = s.vm := by rw [hA]; rfl
  have hhp : s'.heap = H := by rw [hA]; exact hT
  have hW0 : s.WarmedH s'.vm := by rw [hvm]; exact State.WarmedH.refl s
  have hat' : ∀ w ∈ vx_at0 own ic cls names, w.before args s' = true := fun w hw => vx_ot_at hW0 hvm.symm (hgood w (List.mem_cons_of_mem _ (List.mem_cons_of_mem _ hw))) (hat w hw)
  have hk' : (Cond.classLink own ik cls).before args s' = true := vx_ot_at hW0 hvm.symm (hgood _ List.mem_cons_self) hk
  have hini' : (Cond.initialized cls).before args s' = true := vx_ot_at hW0 hvm.symm (hgood _ (List.mem_cons_of_mem _ List.mem_cons_self)) hini
  have hU' : vx_Zq Bundle.tN "UNASSIGNED_STACK" Bundle.steD A s' s'.heap := by rw [hhp]; exact vx_Zq.moved hW0.alike (hU.kept hS.2.1)
  have hN' : vx_Zq Bundle.tN "SUPPRESSED_SENTINEL" Bundle.listD A s' s'.heap := by rw [hhp]; exact vx_Zq.moved hW0.alike (hN.kept hS.2.1)
  have h : ∀ w ∈ Bundle.ownAtoms0 own ic cls names, w.before args s' = true := vx_own hat' (vx_isRefq hU'.1) (vx_isRefq hN'.1) hU'.2.word hN'.2.word
  have hown' : s'.vm.findClass own = some m.cls := by rw [hvm]; exact hown
  have hins : (Cond.instantiable cls 6).before args s' = true := h _ (by simp [Bundle.ownAtoms0])
  obtain ⟨vm₁, cX, kX, hfX, hkX, -, -, X₁, st1⟩ := Y.newCold hexec (own := own) (C := cls) (index := ik) (n := 6) hown' hk' hins hini'
    (g := F0 m pc ls rest) rfl (by rw [hb]; exact d0) (Nat.le_refl _) (Nat.le_refl _)
  generalize hT1 : (T.setVm vm₁).pushCell { cls := cX, slots := kX.instanceTypes.map defaultValue, vm := .none } = T1 at X₁ st1
  have hcat : (Value.ref T.heap.size).category = 1 := rfl
  have hcellA : T1.heap[T.heap.size]? = some (freshCell cX kX) := by rw [← hT1]; exact State.heap_pushCell_size _ _
  have d3' : decode c.code (pc + 3) = .ok (.dup, 1) := by rw [hb]; exact d3
  obtain ⟨U, hsteps, hrun, hend, hW, hsame, ce, hce, hO⟩ := X₁.ctorThrow0 hexec htr (own := own) (cls := cls) (names := names) (ic := ic) hown' hcls hnames h (fun x hx => nomatch hx) hfX hkX hcellA (by rw [hhp, hT]; exact Nat.le_refl _)
    (g := { method := m, pc := pc + 4, locals := ls, stack := .ref T.heap.size :: .ref T.heap.size :: rest, locked := none }) rfl hsize rfl rfl (rest := rest) rfl
    (by rw [hb]; exact d4) (by rw [hb]; exact d7) hout hRframes (by simp only [List.map_cons, List.sum_cons, hcat]; omega) hlocks
  obtain ⟨f1, f2⟩ := vx_frame hsame
  rw [hhp] at f1 f2
  have hWs : s.WarmedH U.vm := State.WarmedH.trans hW0 hW
  have hcl : s.vm.findClass cls = some ce.cls := by
    have h9 := hO.cls
    rw [hvm] at h9
    exact h9
  have hall : s.sameButNew ({ U with vm := s.vm } : State) locs mc ms := by
    subst hA
    obtain ⟨e1, e2⟩ := hsame
    rw [State.setFrames_setFrames] at e1
    have h2 : (T.setVm s.vm).sameButNew ({ U with vm := s.vm } : State) [] (0 + 1) (0 + 6) := ⟨e1, e2⟩
    have h3 := X.same.trans h2
    rw [List.append_nil] at h3
    exact h3.mono hc hs
  refine ⟨U, ?_, .threw T.heap.size, hrun, hend, Or.inr ⟨T.heap.size, rfl, cls, ce, locs, hx U hWs.alike f1 (fun q hq => f2 q hq (fun z hz => nomatch hz)), hce, hO.vm, hcl, hWs, hall, hf⟩⟩
  refine st1 _ ?_
  show Steps p.tables e below (T1.setTop { method := m, pc := pc + 3, locals := ls, stack := .ref T.heap.size :: rest, locked := none }) _
  jvm_step X₁.here [X₁.here.top, hexec, d3', Value.category]
  exact hsteps
/-- 'throw new E("text")': new; dup; ldc; invokespecial; athrow -/
theorem vx_throwS {cc : ByteArray} {pc : Nat} (hexec : p.tables.exec = Jvm.exec) (hb : c.code = cc) (hl : l.stackTraces = false) {own cls text : String} {names : List String} {ik is ic mc ms sa : Nat} {A : Nat → Prop}
    (hown : s.vm.findClass own = some m.cls) (hcls : Bundle.fit cls = true) (hnames : ∀ n ∈ names, Bundle.fit n = true)
    (hk : (Cond.classLink own ik cls).before args s = true) (hini : (Cond.initialized cls).before args s = true) (hstr : vk_R own is text sa s) (hat : ∀ w ∈ vx_atS own ic cls names, w.before args s = true)
    (hgood : ∀ w ∈ Cond.classLink own ik cls :: Cond.initialized cls :: vx_atS own ic cls names, vx_ot w = true)
    (hU : vx_Zq Bundle.tN "UNASSIGNED_STACK" Bundle.steD A s s.heap) (hN : vx_Zq Bundle.tN "SUPPRESSED_SENTINEL" Bundle.listD A s s.heap) (hS : va_S A s.heap H locs) (hsize : ls.size = c.maxLocals)
    (d0 : decode cc pc = .ok (.new ik, 3)) (d3 : decode cc (pc + 3) = .ok (.dup, 1)) (d4 : decode cc (pc + 4) = .ok (.ldc is, 2)) (d6 : decode cc (pc + 6) = .ok (.invokespecial ic, 3)) (d9 : decode cc (pc + 9) = .ok (.athrow, 1))
    (hout : ∀ x ∈ c.exceptionTable.toList, covers x (pc + 9) = false)
    (hRframes : names.length + 3 < R.frames) (hRlocals : (rest.map fun v => v.category).sum + (13 * (names.length + 1) + 43) ≤ R.locals) (hRcells : cells + 1 ≤ R.cells) (hRslots : slots + 6 ≤ R.slots) (hlocks : meth.locks = false)
    (hx : ∀ t : State, s.vm.Alike t.vm → H.size ≤ t.heap.size → (∀ q : Nat, q < H.size → t.heap[q]? = H[q]?) → XC cls s t)
    (hf : ∀ z ∈ locs, free z.base) (hc : cells + 1 ≤ mc) (hs : slots + 6 ≤ ms) :
    W p l e R s m args below meth c H locs cells slots (vx_MQ below Qc XC args s mc ms free) (F0 m pc ls rest) := by
  intro T hT X
  have htr : e.platform.stackTraces = false := (show e.platform.stackTraces = l.stackTraces by rw [X.admits.platform]).trans hl
  have Y := vx_rebase X (R' := { frames := R.frames, locals := R.locals, cells := 1, slots := 6 }) (Nat.le_refl _) (Nat.le_refl _) hRcells hRslots
  obtain ⟨s', hA⟩ : ∃ z, z = (T.setVm s.vm).setFrames (.invoking m args :: below) := ⟨_, rfl⟩
  rw [← hA] at Y
  have hvm : s'.vm = s.vm := by rw [hA]; rfl
  have hhp : s'.heap = H := by rw [hA]; exact hT
  have hW0 : s.WarmedH s'.vm := by rw [hvm]; exact State.WarmedH.refl s
  have hat' : ∀ w ∈ vx_atS own ic cls names, w.before args s' = true := fun w hw => vx_ot_at hW0 hvm.symm (hgood w (List.mem_cons_of_mem _ (List.mem_cons_of_mem _ hw))) (hat w hw)
  have hk' : (Cond.classLink own ik cls).before args s' = true := vx_ot_at hW0 hvm.symm (hgood _ List.mem_cons_self) hk
  have hini' : (Cond.initialized cls).before args s' = true := vx_ot_at hW0 hvm.symm (hgood _ (List.mem_cons_of_mem _ List.mem_cons_self)) hini
  have hU' : vx_Zq Bundle.tN "UNASSIGNED_STACK" Bundle.steD A s' s'.heap := by rw [hhp]; exact vx_Zq.moved hW0.alike (hU.kept hS.2.1)
  have hN' : vx_Zq Bundle.tN "SUPPRESSED_SENTINEL" Bundle.listD A s' s'.heap := by rw [hhp]; exact vx_Zq.moved hW0.alike (hN.kept hS.2.1)
  have h : ∀ w ∈ Bundle.ownAtoms own ic cls names, w.before args s' = true := vx_own hat' (vx_isRefq hU'.1) (vx_isRefq hN'.1) hU'.2.word hN'.2.word
  have hown' : s'.vm.findClass own = some m.cls := by rw [hvm]; exact hown
  have hins : (Cond.instantiable cls 6).before args s' = true := h _ (by simp [Bundle.ownAtoms])
  obtain ⟨vm₁, cX, kX, hfX, hkX, -, -, X₁, st1⟩ := Y.newCold hexec (own := own) (C := cls) (index := ik) (n := 6) hown' hk' hins hini'
    (g := F0 m pc ls rest) rfl (by rw [hb]; exact d0) (Nat.le_refl _) (Nat.le_refl _)
  generalize hT1 : (T.setVm vm₁).pushCell { cls := cX, slots := kX.instanceTypes.map defaultValue, vm := .none } = T1 at X₁ st1
  have hcat : (Value.ref T.heap.size).category = 1 := rfl
  have hcellA : T1.heap[T.heap.size]? = some (freshCell cX kX) := by rw [← hT1]; exact State.heap_pushCell_size _ _
  have d3' : decode c.code (pc + 3) = .ok (.dup, 1) := by rw [hb]; exact d3
  have d4' : decode c.code (pc + 4) = .ok (.ldc is, 2) := by rw [hb]; exact d4
  have hstr' : vk_R own is text sa s' := vk_R.warm hW0 hstr
  obtain ⟨U, hsteps, hrun, hend, hW, hsame, ce, hce, hO⟩ := X₁.ctorThrowS hexec htr (own := own) (cls := cls) (names := names) (ic := ic) hown' hcls hnames h (fun x hx => nomatch hx) hfX hkX hcellA (by rw [hhp, hT]; exact Nat.le_refl _) (msg := .ref sa) rfl
    (g := { method := m, pc := pc + 6, locals := ls, stack := .ref sa :: .ref T.heap.size :: .ref T.heap.size :: rest, locked := none }) rfl hsize rfl rfl (rest := rest) rfl
    (by rw [hb]; exact d6) (by rw [hb]; exact d9) hout hRframes (by simp only [List.map_cons, List.sum_cons, hcat]; omega) hlocks
  obtain ⟨f1, f2⟩ := vx_frame hsame
  rw [hhp] at f1 f2
  have hWs : s.WarmedH U.vm := State.WarmedH.trans hW0 hW
  have hcl : s.vm.findClass cls = some ce.cls := by
    have h9 := hO.cls
    rw [hvm] at h9
    exact h9
  have hall : s.sameButNew ({ U with vm := s.vm } : State) locs mc ms := by
    subst hA
    obtain ⟨e1, e2⟩ := hsame
    rw [State.setFrames_setFrames] at e1
    have h2 : (T.setVm s.vm).sameButNew ({ U with vm := s.vm } : State) [] (0 + 1) (0 + 6) := ⟨e1, e2⟩
    have h3 := X.same.trans h2
    rw [List.append_nil] at h3
    exact h3.mono hc hs
  refine ⟨U, ?_, .threw T.heap.size, hrun, hend, Or.inr ⟨T.heap.size, rfl, cls, ce, locs, hx U hWs.alike f1 (fun q hq => f2 q hq (fun z hz => nomatch hz)), hce, hO.vm, hcl, hWs, hall, hf⟩⟩
  refine st1 _ ?_
  show Steps p.tables e below (T1.setTop { method := m, pc := pc + 3, locals := ls, stack := .ref T.heap.size :: rest, locked := none }) _
  jvm_step X₁.here [X₁.here.top, hexec, d3', Value.category]
  exact X₁.ldcString hexec (own := own) (text := text) (index := is) (a := sa) hown' hstr'.1 hstr'.2
    (g := { method := m, pc := pc + 4, locals := ls, stack := .ref T.heap.size :: .ref T.heap.size :: rest, locked := none }) rfl d4' _ hsteps
/-- 'throw new E("text")', the text by a wide index -/
theorem vx_throwSW {cc : ByteArray} {pc : Nat} (hexec : p.tables.exec = Jvm.exec) (hb : c.code = cc) (hl : l.stackTraces = false) {own cls text : String} {names : List String} {ik is ic mc ms sa : Nat} {A : Nat → Prop}
    (hown : s.vm.findClass own = some m.cls) (hcls : Bundle.fit cls = true) (hnames : ∀ n ∈ names, Bundle.fit n = true)
    (hk : (Cond.classLink own ik cls).before args s = true) (hini : (Cond.initialized cls).before args s = true) (hstr : vk_R own is text sa s) (hat : ∀ w ∈ vx_atS own ic cls names, w.before args s = true)
    (hgood : ∀ w ∈ Cond.classLink own ik cls :: Cond.initialized cls :: vx_atS own ic cls names, vx_ot w = true)
    (hU : vx_Zq Bundle.tN "UNASSIGNED_STACK" Bundle.steD A s s.heap) (hN : vx_Zq Bundle.tN "SUPPRESSED_SENTINEL" Bundle.listD A s s.heap) (hS : va_S A s.heap H locs) (hsize : ls.size = c.maxLocals)
    (d0 : decode cc pc = .ok (.new ik, 3)) (d3 : decode cc (pc + 3) = .ok (.dup, 1)) (d4 : decode cc (pc + 4) = .ok (.ldc_w is, 3)) (d7 : decode cc (pc + 7) = .ok (.invokespecial ic, 3)) (d10 : decode cc (pc + 10) = .ok (.athrow, 1))
    (hout : ∀ x ∈ c.exceptionTable.toList, covers x (pc + 10) = false)
    (hRframes : names.length + 3 < R.frames) (hRlocals : (rest.map fun v => v.category).sum + (13 * (names.length + 1) + 43) ≤ R.locals) (hRcells : cells + 1 ≤ R.cells) (hRslots : slots + 6 ≤ R.slots) (hlocks : meth.locks = false)
    (hx : ∀ t : State, s.vm.Alike t.vm → H.size ≤ t.heap.size → (∀ q : Nat, q < H.size → t.heap[q]? = H[q]?) → XC cls s t)
    (hf : ∀ z ∈ locs, free z.base) (hc : cells + 1 ≤ mc) (hs : slots + 6 ≤ ms) :
    W p l e R s m args below meth c H locs cells slots (vx_MQ below Qc XC args s mc ms free) (F0 m pc ls rest) := by
  intro T hT X
  have htr : e.platform.stackTraces = false := (show e.platform.stackTraces = l.stackTraces by rw [X.admits.platform]).trans hl
  have Y := vx_rebase X (R' := { frames := R.frames, locals := R.locals, cells := 1, slots := 6 }) (Nat.le_refl _) (Nat.le_refl _) hRcells hRslots
  obtain ⟨s', hA⟩ : ∃ z, z = (T.setVm s.vm).setFrames (.invoking m args :: below) := ⟨_, rfl⟩
  rw [← hA] at Y
  have hvm : s'.vm = s.vm := by rw [hA]; rfl
  have hhp : s'.heap = H := by rw [hA]; exact hT
  have hW0 : s.WarmedH s'.vm := by rw [hvm]; exact State.WarmedH.refl s
  have hat' : ∀ w ∈ vx_atS own ic cls names, w.before args s' = true := fun w hw => vx_ot_at hW0 hvm.symm (hgood w (List.mem_cons_of_mem _ (List.mem_cons_of_mem _ hw))) (hat w hw)
  have hk' : (Cond.classLink own ik cls).before args s' = true := vx_ot_at hW0 hvm.symm (hgood _ List.mem_cons_self) hk
  have hini' : (Cond.initialized cls).before args s' = true := vx_ot_at hW0 hvm.symm (hgood _ (List.mem_cons_of_mem _ List.mem_cons_self)) hini
  have hU' : vx_Zq Bundle.tN "UNASSIGNED_STACK" Bundle.steD A s' s'.heap := by rw [hhp]; exact vx_Zq.moved hW0.alike (hU.kept hS.2.1)
  have hN' : vx_Zq Bundle.tN "SUPPRESSED_SENTINEL" Bundle.listD A s' s'.heap := by rw [hhp]; exact vx_Zq.moved hW0.alike (hN.kept hS.2.1)
  have h : ∀ w ∈ Bundle.ownAtoms own ic cls names, w.before args s' = true := vx_own hat' (vx_isRefq hU'.1) (vx_isRefq hN'.1) hU'.2.word hN'.2.word
  have hown' : s'.vm.findClass own = some m.cls := by rw [hvm]; exact hown
  have hins : (Cond.instantiable cls 6).before args s' = true := h _ (by simp [Bundle.ownAtoms])
  obtain ⟨vm₁, cX, kX, hfX, hkX, -, -, X₁, st1⟩ := Y.newCold hexec (own := own) (C := cls) (index := ik) (n := 6) hown' hk' hins hini'
    (g := F0 m pc ls rest) rfl (by rw [hb]; exact d0) (Nat.le_refl _) (Nat.le_refl _)
  generalize hT1 : (T.setVm vm₁).pushCell { cls := cX, slots := kX.instanceTypes.map defaultValue, vm := .none } = T1 at X₁ st1
  have hcat : (Value.ref T.heap.size).category = 1 := rfl
  have hcellA : T1.heap[T.heap.size]? = some (freshCell cX kX) := by rw [← hT1]; exact State.heap_pushCell_size _ _
  have d3' : decode c.code (pc + 3) = .ok (.dup, 1) := by rw [hb]; exact d3
  have d4' : decode c.code (pc + 4) = .ok (.ldc_w is, 3) := by rw [hb]; exact d4
  have hstr' : vk_R own is text sa s' := vk_R.warm hW0 hstr
  obtain ⟨U, hsteps, hrun, hend, hW, hsame, ce, hce, hO⟩ := X₁.ctorThrowS hexec htr (own := own) (cls := cls) (names := names) (ic := ic) hown' hcls hnames h (fun x hx => nomatch hx) hfX hkX hcellA (by rw [hhp, hT]; exact Nat.le_refl _) (msg := .ref sa) rfl
    (g := { method := m, pc := pc + 7, locals := ls, stack := .ref sa :: .ref T.heap.size :: .ref T.heap.size :: rest, locked := none }) rfl hsize rfl rfl (rest := rest) rfl
    (by rw [hb]; exact d7) (by rw [hb]; exact d10) hout hRframes (by simp only [List.map_cons, List.sum_cons, hcat]; omega) hlocks
  obtain ⟨f1, f2⟩ := vx_frame hsame
  rw [hhp] at f1 f2
  have hWs : s.WarmedH U.vm := State.WarmedH.trans hW0 hW
  have hcl : s.vm.findClass cls = some ce.cls := by
    have h9 := hO.cls
    rw [hvm] at h9
    exact h9
  have hall : s.sameButNew ({ U with vm := s.vm } : State) locs mc ms := by
    subst hA
    obtain ⟨e1, e2⟩ := hsame
    rw [State.setFrames_setFrames] at e1
    have h2 : (T.setVm s.vm).sameButNew ({ U with vm := s.vm } : State) [] (0 + 1) (0 + 6) := ⟨e1, e2⟩
    have h3 := X.same.trans h2
    rw [List.append_nil] at h3
    exact h3.mono hc hs
  refine ⟨U, ?_, .threw T.heap.size, hrun, hend, Or.inr ⟨T.heap.size, rfl, cls, ce, locs, hx U hWs.alike f1 (fun q hq => f2 q hq (fun z hz => nomatch hz)), hce, hO.vm, hcl, hWs, hall, hf⟩⟩
  refine st1 _ ?_
  show Steps p.tables e below (T1.setTop { method := m, pc := pc + 3, locals := ls, stack := .ref T.heap.size :: rest, locked := none }) _
  jvm_step X₁.here [X₁.here.top, hexec, d3', Value.category]
  exact X₁.ldcStringW hexec (own := own) (text := text) (index := is) (a := sa) hown' hstr'.1 hstr'.2
    (g := { method := m, pc := pc + 4, locals := ls, stack := .ref T.heap.size :: .ref T.heap.size :: rest, locked := none }) rfl d4' _ hsteps
end Ends
section Bodies
variable {l : Launch}
theorem vx_ofW {y : MethodName} {ws ws' : List Cond} {rm : Room} {Pc : Array Value → State → Prop} {Qc : Array Value → State → Outcome → State → Prop} {XC : String → State → State → Prop} {mc ms : Nat} {free : Addr → Prop} {cc : ByteArray} {maxL : Nat} {ret : Option FieldType}
    (hy : plainName y.cls = true) (hw : ws = Cond.code y cc maxL ret :: ws')
    (body : ∀ p e s m args below meth c s₁, BodyLoose p l y (headSpec ws rm) cc maxL ret e s m args below meth c s₁ → c.maxLocals = maxL → (∀ x ∈ c.exceptionTable.toList, False) → Pc args s →
      W p l e (headSpec ws rm).room s m args below meth c s.heap [] 0 0 (vx_MQ below Qc XC args s mc ms free) (entryFrame m args maxL)) : vx_Met l y ws rm Pc Qc XC mc ms free := by
  refine MetFree.of_bodyS (code := cc) (maxLocals := maxL) (ret := ret) hy ?_ ?_
  · intro args s m h hn
    obtain ⟨meth, c, h1, h2, h3, h4, h5, h6, -, -⟩ := Cond.code_spec hn (atoms_spec (ws := ws) h _ (by rw [hw]; exact List.mem_cons_self))
    exact ⟨meth, c, h1, h2, h3, h4, h5, h6⟩
  · intro p e s m args below meth c s₁ B hml hP _
    have hh0 : s₁.heap = s.heap := by rw [B.state]; rfl
    have ht : ∀ x ∈ c.exceptionTable.toList, False := by
      obtain ⟨meth9, c9, h1, h2, -, -, -, -, h7, -⟩ := Cond.code_spec B.named (atoms_spec (ws := ws) B.pre _ (by rw [hw]; exact List.mem_cons_self))
      cases Option.some.inj (h1.symm.trans B.method)
      cases Option.some.inj (h2.symm.trans (Stand.of_body B).code)
      intro x hx
      rw [Array.isEmpty_iff.mp h7] at hx
      cases hx
    obtain ⟨t, a1, o, b1, b2, b3⟩ := body p e s m args below meth c s₁ B hml ht hP s₁ hh0 (Stand.of_body B)
    exact ⟨t, o, a1, b1, b2, b3⟩
/-- the table of a body with handlers -/
theorem vx_table {p : Program} {x y : MethodName} {S : Spec} {cc bytes : ByteArray} {maxL maxL' : Nat} {ret ret' : Option FieldType} {e : Env} {s s₁ : State} {m : MethodId} {args : Array Value} {below : List Frame} {meth : Method} {c : Code} {hh : List (Nat × Nat × Nat × Nat)}
    (B : BodyLoose p l y S cc maxL ret e s m args below meth c s₁) (h : (Cond.codeWith y bytes maxL' ret' hh).before args s = true) : c.exceptionTable.toList = tableOf hh := by
  obtain ⟨m9, meth9, c9, hn9, h1, h2, -, -, h6, -⟩ := Cond.codeWith_spec h
  cases Option.some.inj (hn9.symm.trans B.named)
  cases Option.some.inj (h1.symm.trans B.method)
  cases Option.some.inj (h2.symm.trans (Stand.of_body B).code)
  rw [← h6, table_eq]
end Bodies
end VXA
/-! ===== END ===== -/
/-! ===== BEGIN a static call of a method with an exception table ===== -/
section VXS
variable {p : Program} {l : Launch} {e : Env} {R : Room} {s : State} {m : MethodId} {args : Array Value} {below : List Frame} {meth : Method} {c : Code} {T : State} {H : Heap} {locs : List Loc} {cells slots : Nat}
abbrev vx_CSW (R : Room) (s : State) (args : Array Value) (own : String) (index : Nat) (y : MethodName) (bytes : ByteArray) (maxL : Nat) (ret : Option FieldType) (hh : List (Nat × Nat × Nat × Nat)) (ws : List Cond) (rm : Room) (mc ms n : Nat) : Prop :=
  (rm.cells = mc ∧ rm.slots = ms ∧ rm.frames + 1 ≤ R.frames ∧ 8 + (maxL + 11) + rm.locals ≤ R.locals ∧ (∀ w ∈ ws, ∀ (a' : Array Value) (U : State), s.WarmedH U.vm → w.before a' U = true) ∧ Cond.codeWith y bytes maxL ret hh ∈ ws) ∧
  (Cond.codeWith y bytes maxL ret hh).before args s = true ∧ (Cond.initialized y.cls).before args s = true ∧ (y.cls ≠ "java/lang/invoke/MethodHandle" ∧ y.cls ≠ "java/lang/invoke/VarHandle") ∧
  (∀ sig, parseMethodDescriptor y.desc = some sig → n = sig.parameters.length) ∧ (Cond.methodLink own index y).before args s = true ∧ (Cond.static y).before args s = true
theorem vx_cwSW {own : String} {index maxL mc ms : Nat} {y : MethodName} {bytes : ByteArray} {ret : Option FieldType} {hh : List (Nat × Nat × Nat × Nat)} {Ts ws ws' : List Cond} {rm : Room} (n : Nat) (ht : ∀ w ∈ Ts, w.before args s = true) (hT : GoodIn Ts (va_wsS own index y ws)) (hw : ws = Cond.codeWith y bytes maxL ret hh :: ws') (hrc : rm.cells = mc) (hrs : rm.slots = ms)
    (hd : y.cls ≠ "java/lang/invoke/MethodHandle" ∧ y.cls ≠ "java/lang/invoke/VarHandle" ∧ (parseMethodDescriptor y.desc).map (fun d => d.parameters.length) = some n) (hR : rm.frames + 1 ≤ R.frames ∧ 8 + (maxL + 11) + rm.locals ≤ R.locals) :
    vx_CSW R s args own index y bytes maxL ret hh ws rm mc ms n := by
  have ok : ∀ w ∈ va_wsS own index y ws, w.before args s = true := fun w h => ht w (hT w h).1
  have hG : GoodIn Ts ws := fun w h => hT w (by unfold va_wsS; exact List.mem_append_right _ h)
  have hc : Cond.codeWith y bytes maxL ret hh ∈ ws := by rw [hw]; exact List.mem_cons_self
  refine ⟨⟨hrc, hrs, hR.1, hR.2, pay_in ht hG, hc⟩, ht _ (hG _ hc).1, ok _ (by simp [va_wsS]), ⟨hd.1, hd.2.1⟩, fun sig h => ?_, ok _ (by simp [va_wsS]), ok _ (by simp [va_wsS])⟩
  have h2 := hd.2.2
  rw [h] at h2
  exact (Option.some.inj h2).symm
theorem vx_callSW (X : Stand p l e R s m args below meth c T locs cells slots) (hexec : p.tables.exec = Jvm.exec) {own : String} {index : Nat} {y : MethodName} {bytes : ByteArray} {maxL : Nat} {ret : Option FieldType} {hh : List (Nat × Nat × Nat × Nat)}
    (hown : s.vm.findClass own = some m.cls) (hlink : (Cond.methodLink own index y).before args s = true) (hstat : (Cond.static y).before args s = true) (hinit : (Cond.initialized y.cls).before args s = true)
    (hcode : (Cond.codeWith y bytes maxL ret hh).before args s = true) (hy : y.cls ≠ "java/lang/invoke/MethodHandle" ∧ y.cls ≠ "java/lang/invoke/VarHandle")
    {W9 : Nat} {Pre : Pt → Array Value → Prop} {Post : Pt → Array Value → Option Value → Pt → Prop} (hK : Back l R p e below s args y 3 W9 Pre Post)
    {g : JFrame} (hg : g.method = m) (hsize : g.locals.size = c.maxLocals) {argsL rest : List Value} (hlen : ∀ sig, parseMethodDescriptor y.desc = some sig → argsL.length = sig.parameters.length)
    (hstack : g.stack = argsL.reverse ++ rest) (hW : 2 * g.monitorRoom + (rest.map fun v => v.category).sum ≤ W9) (hdg : decode c.code g.pc = .ok (.invokestatic index, 3))
    (hpre : ∀ vm₁, s.WarmedH vm₁ → Pre ⟨T.setVm vm₁, locs, cells, slots⟩ argsL.toArray) :
    ∃ (v : Option Value) (vm₁ : Vm) (B : Pt), s.WarmedH vm₁ ∧ Stand p l e R s m args below meth c B.U B.locs B.cells B.slots ∧ Post ⟨T.setVm vm₁, locs, cells, slots⟩ argsL.toArray v B ∧
      ∀ target, Steps p.tables e below (B.U.setTop { g with pc := g.pc + 3, stack := v.toList ++ rest }) target → Steps p.tables e below (T.setTop g) target := by
  obtain ⟨mk, methM, cM, hnamed, hmethM, -, -, -, -, -, -, hsigM⟩ := Cond.codeWith_spec hcode
  have hstatic : methM.isStatic = true := Cond.static_spec hnamed hmethM hstat
  obtain ⟨kP, hkP, -⟩ := className_of_methodNamed hnamed
  have hinitP : kP.init = .initialized := Cond.initialized_spec (findClass_of_methodNamed hnamed) hkP hinit
  obtain ⟨vm₁, X₁, hstep₁⟩ := X.invokestatic hexec hown hlink hnamed hmethM hstatic hkP hinitP hy (g := g) hg (argsL := argsL) (rest := rest) (hlen _ hsigM) hstack hdg
  obtain ⟨v, B, X', hpost, hsteps⟩ := hK m meth c ⟨T.setVm vm₁, locs, cells, slots⟩ { g with stack := rest } (.invokestatic index) mk argsL.toArray X₁ hg hsize hdg hW (X₁.named hnamed) (hpre vm₁ X₁.warmed)
  exact ⟨v, vm₁, B, X₁.warmed, X', hpost, fun target h => hstep₁ _ fun acts => by rw [doInvoke_state]; exact hsteps.trans h⟩
theorem vx_runSW {y : MethodName} {bytes cc : ByteArray} {maxL nL mc ms n index : Nat} {ret : Option FieldType} {hh : List (Nat × Nat × Nat × Nat)} {ws : List Cond} {rm : Room} {Pc : Array Value → State → Prop} {Qc : Array Value → State → Outcome → State → Prop} {free : Addr → Prop} {Ts : List Cond} {own : String} {As rest : List Value} {g : JFrame}
    (S : CallFix p m c cc nL s args Ts own) (hM : Met l y ws rm Pc Qc mc ms free) (cw : vx_CSW R s args own index y bytes maxL ret hh ws rm mc ms n) (hp : PreS s H Pc As)
    (hg : g.method = m) (hn : As.length = n) (hsize : g.locals.size = nL) (hstack : g.stack = As.reverse ++ rest) (hW : 2 * g.monitorRoom + (rest.map fun v => v.category).sum ≤ 8) (hdg : decode cc g.pc = .ok (.invokestatic index, 3)) (hf : cells + mc ≤ R.cells ∧ slots + ms ≤ R.slots) :
    va_Run p l e R s m args below meth c H locs cells slots mc ms g rest (Qc As.toArray) (free) := by
  obtain ⟨⟨hrc, hrs, hfr, hlo, hws, hcw⟩, hcode, hini, hy, hlen, hl, hstt⟩ := cw
  have hK : Back l R p e below s args y 3 8 (PreOf R mc ms Pc) (PostOf Qc mc ms free) := va_backW (hh := hh) (bytes := bytes) (maxL := maxL) (ret := ret) hM hp.1 hrc hrs hfr hlo hws hcw (fun a' U hW => word_at hW (Or.inl (by first | rfl | simp [Cond.onTables, Cond.keeps, Cond.steady])) hini)
  obtain ⟨hx, hb, hml, ho, -⟩ := S
  intro T hT X
  obtain ⟨v, vm₁, ⟨U', l2, c2, s2⟩, hW₁, X', ⟨g', mk, t, L, e1, e2, hq, h1, hL, h2, h3⟩, st⟩ := vx_callSW X hx (hh := hh) (bytes := bytes) (maxL := maxL) (ret := ret) ho hl hstt hini hcode hy hK hg (hsize.trans hml.symm) (argsL := As) (rest := rest) (fun sig h => hn.trans (hlen sig h)) hstack hW (by rw [hb]; exact hdg)
    (fun vm₁ hW₁ => ⟨hf.1, hf.2, hp.2 (T.setVm vm₁) hT hW₁⟩)
  dsimp only [Pt.U, Pt.locs, Pt.cells, Pt.slots] at X' e1 e2 h1 h2 h3 st
  subst h1; subst h2; subst h3
  exact ⟨v, (T.setVm vm₁).calling g' mk As.toArray, t, U', L, hT, X', hL, e1, e2, hq, st⟩
/-- not caught here, past rows that name other classes: it goes on to the caller -/
theorem vx_outP {p : Program} {l : Launch} {e : Env} {R : Room} {s : State} {m : MethodId} {args : Array Value} {below : List Frame} {meth : Method} {c : Code} {H : Heap} {locs : List Loc} {cells slots : Nat} {free : Addr → Prop} {ls : Array Slot} {rest : List Value} {Qc : Array Value → State → Outcome → State → Prop} {XC : String → State → State → Prop}
    {pc : Nat} {own E : String} {ce : Cell} {q : Addr} {mc ms : Nat} (hown : s.vm.findClass own = some m.cls) (hlocks : meth.locks = false)
    (hpass : ∀ z ∈ c.exceptionTable.toList, covers z pc = false ∨ (z.catchType ≠ 0 ∧ ∃ nm : String, (Cond.classLink own z.catchType nm).before args s = true ∧ va_Nc E nm s)) (hcell : H[q]? = some ce) (hv : ce.vm = .none) (hcl : s.vm.findClass E = some ce.cls)
    (hx : ∀ t : State, t.heap = H → s.vm.Alike t.vm → XC E s t) (hf : ∀ z ∈ locs, free z.base) (hc : cells ≤ mc) (hs : slots ≤ ms) :
    vx_W p l e R s m args below meth c H locs cells slots (vx_MQ below Qc XC args s mc ms free) (F0 m pc ls rest) q := by
  intro T hT X
  have hpl : e.platform.magicAccessors = ({} : Platform).magicAccessors := by rw [X.admits.platform]
  obtain ⟨vm', hW', X', st⟩ := X.outThrough hlocks q (g := F0 m pc ls rest) rfl rfl rfl (cell := ce) (by rw [hT]; exact hcell) (by rw [hv]; rfl)
    (by obtain ⟨k9, h9, -⟩ := Vm.findClass_spec hcl; exact ⟨k9, h9⟩) (fun z hz => by
      rcases hpass z hz with h | ⟨hz0, nm, hl1, hn1⟩
      · exact Or.inl h
      · obtain ⟨c6, hc6, hcl6⟩ := Cond.classLink_spec hown hl1 e.platform hpl
        obtain ⟨a8, b8, h1, h2, h3⟩ := hn1
        cases Option.some.inj (h1.symm.trans hcl)
        cases Option.some.inj (h2.symm.trans hc6)
        exact Or.inr ⟨hz0, _, hcl6, h3⟩)
  obtain ⟨g₀, hfr⟩ := X'.frames_eq
  have hcell9 : ((T.setVm vm').setFrames (.throwing q :: below)).heap[q]? = some ce := by
    show T.heap[q]? = some ce
    rw [hT]; exact hcell
  have hend : Ended ((T.setVm vm').setFrames (.throwing q :: below)) below (.threw q) := State.frames_setFrames _ (State.cur_lt_of_frames hfr)
  refine ⟨(T.setVm vm').setFrames (.throwing q :: below), ?_, .threw q, X'.here.running, hend, Or.inr ⟨q, rfl, E, ce, locs, hx _ hT (X'.ends _).1.alike, hcell9, hv, hcl, (X'.ends _).1, (X'.ends _).2.mono hc hs, hf⟩⟩
  rw [X.pushThrowing_eq]
  exact st
/-- a thing of a world lies in the heap -/
theorem vx_lt {D : va_G} {cl : List vw_C} {ws : va_W} {H1 : Heap} (h : va_P D cl ws H1) {k : Nat} {q : Nat × va_E} (hk : ws[k]? = some q) : q.1 < H1.size := (h k q hk).lt
end VXS
/-! ===== END ===== -/
/-! ===== BEGIN methods with a table of their own: called by a name, returning or throwing ===== -/
section VXH
/-! vx_backW, vx_callVX, vx_callSX, vx_callVW, vx_runVW, vx_runVX, vx_runSX, vx_ofWH follow the same proofs as their sisters above (Free/Laws.lean, Shelf42/LK1.lean); vx_outP calls Shelf42/NT130.lean (outThrough). -/
section
variable {l : Launch} {R : Room} {p : Program} {e : Env} {below : List Frame} {s : State} {sargs : Array Value} {y : MethodName} {len W9 : Nat}
theorem vx_backW {ws : List Cond} {rm : Room} {Pc : Array Value → State → Prop} {Qc : Array Value → State → Outcome → State → Prop} {XC : String → State → State → Prop} {mc ms : Nat} {free : Addr → Prop} {bytes : ByteArray} {maxL : Nat} {ret : Option FieldType} {hh : List (Nat × Nat × Nat × Nat)}
    (hM : vx_Met l y ws rm Pc Qc XC mc ms free) (hblind : FrameBlind Pc) (hrc : rm.cells = mc) (hrs : rm.slots = ms)
    (hframes : rm.frames + 1 ≤ R.frames) (hlocals : W9 + (maxL + 11) + rm.locals ≤ R.locals)
    (hws : ∀ w ∈ ws, ∀ a' U, s.WarmedH U.vm → w.before a' U = true) (hcode : Cond.codeWith y bytes maxL ret hh ∈ ws) (hinit : ∀ a' U, s.WarmedH U.vm → (Cond.initialized y.cls).before a' U = true) :
    vx_Back l R p e below s sargs y len W9 (PreOf R mc ms Pc) (PostOf Qc mc ms free) (vx_Post XC mc ms free) := by
  intro m meth c A g ig mk a X hg hsize hdg hW hn hp
  have h1 : (headSpec ws rm).pre.before a A.U = true := atoms_intro fun w hw => hws w hw _ _ X.warmed
  have h2 : (Cond.codeWith y bytes maxL ret hh).before a A.U = true := hws _ hcode _ _ X.warmed
  have h3 : (Cond.initialized y.cls).before a A.U = true := hinit _ _ X.warmed
  have h4 : A.cells + (headSpec ws rm).room.cells ≤ R.cells := by rw [show (headSpec ws rm).room.cells = mc from hrc]; exact hp.1
  have h5 : A.slots + (headSpec ws rm).room.slots ≤ R.slots := by rw [show (headSpec ws rm).room.slots = ms from hrs]; exact hp.2.1
  have hPc : Pc a (A.U.calling g mk a) := hblind _ _ _ _ hp.2.2
  obtain ⟨U, Ls, c0, s0⟩ := A
  dsimp only [Pt.U, Pt.locs, Pt.cells, Pt.slots] at h1 h2 h3 h4 h5 X hn hPc ⊢
  obtain ⟨m9, methY, cY, hn9, hmY, hcY, -, hlY, -⟩ := Cond.codeWith_spec h2
  cases Option.some.inj (hn9.symm.trans hn)
  obtain ⟨kY, hkY, -⟩ := className_of_methodNamed hn
  have hinitY : kY.init = .initialized := Cond.initialized_spec (findClass_of_methodNamed hn) hkY h3
  have h : At U g.method c below := by rw [hg]; exact X.here
  have hlocals9 : W9 + (maxL + 11) + (headSpec ws rm).room.locals ≤ R.locals := hlocals
  have happ : (headSpec ws rm).appliesLoose y e.platform (U.calling g mk a) = true :=
    Spec.appliesLoose_calling (g := g) h hdg hn hkY hinitY
      (X.room_calling (g := g) (R' := (headSpec ws rm).room) hsize hmY hcY hframes (by rw [hlY]; omega) h4 h5) h1
  obtain ⟨mid, hmid⟩ := h.above
  have hfr : (U.setTop g).frames = (.java g :: mid) ++ below := by rw [State.frames_setTop' g h.top, hmid]; rfl
  obtain ⟨o, s₂, hsteps, -, hend, hq⟩ := Steps.callFree hM p X.admits X.cas X.clock (acts := []) hfr happ hPc trivial
  have hq' : vx_Q Qc XC mc ms free a (U.calling g mk a) o s₂ := hq
  rw [State.frames_setTop' g h.top] at hend
  obtain ⟨g₀, hg0⟩ := Option.isSome_iff_exists.mp h.top
  obtain ⟨r, hr⟩ := State.topJava?_eq_some.mp hg0
  have hr' : (({ U with heap := s₂.heap, slotsUsed := s₂.slotsUsed } : State).setVm s₂.vm).frames = .java g₀ :: r := hr
  rcases hq' with ⟨hqc, L, hfe, hL⟩ | ⟨q, rfl, E, ce, L, hx, hce, hcv, hcl, hW₂, hsm, hL⟩
  · obtain ⟨⟨v, rfl⟩, hW₂, e2, q2, q3, q4, q5, q6⟩ := id hfe
    have e3 : s₂ = ({ (U.calling g mk a).setFrames s₂.frames with heap := s₂.heap, slotsUsed := s₂.slotsUsed } : State).setVm s₂.vm := by
      have : s₂ = ({ s₂ with vm := (U.calling g mk a).vm } : State).setVm s₂.vm := rfl
      rw [e2] at this
      exact this
    obtain ⟨c₂, i₂, len₂, hc₂, hd₂, hf₂⟩ := hend
    have hW' : U.WarmedH s₂.vm := hW₂
    have hcc : c₂ = c := by
      have h1 : s₂.code? g.method = U.code? g.method := by
        rw [State.code?_eq, State.code?_eq, hW'.alike.method?]
      exact Option.some.inj (hc₂.symm.trans (h1.trans h.code))
    subst hcc
    have hlen : len₂ = len := by rw [hdg] at hd₂; cases hd₂; rfl
    subst hlen
    have hs₂ : s₂ = (({ U with heap := s₂.heap, slotsUsed := s₂.slotsUsed } : State).setVm s₂.vm).setTop { g with pc := g.pc + len₂, stack := v.toList ++ g.stack } := by
      refine e3.trans ?_
      rw [hf₂, State.calling_eq h.top, State.setFrames_setFrames, State.setTop_of_frames _ hr', hr]
      rfl
    have hsame : U.sameButNew ({ U with heap := s₂.heap, slotsUsed := s₂.slotsUsed } : State) L mc ms := by
      refine ⟨?_, q2, q3, q4, q5, q6⟩
      obtain ⟨t, ht, -⟩ := State.frames_cons hr
      show ({ U with heap := s₂.heap, slotsUsed := s₂.slotsUsed } : State) = { U.setFrames U.frames with heap := s₂.heap, slotsUsed := s₂.slotsUsed }
      rw [State.setFrames_self ht]
    subst hg
    refine Or.inl ⟨v, ⟨(({ U with heap := s₂.heap, slotsUsed := s₂.slotsUsed } : State).setVm s₂.vm), Ls ++ L, c0 + mc, s0 + ms⟩,
      ⟨X.admits, X.cas, X.clock, X.frames, X.room, X.hears, X.method, X.code, (X.here.setHeapUsed s₂.heap s₂.slotsUsed).setVm hW'.alike, X.tail, State.WarmedH.trans X.warmed hW', X.limits, X.bytes, X.same.trans (hsame.setVm s.vm)⟩,
      ⟨g, mk, s₂, L, rfl, rfl, hqc, rfl, hL, rfl, rfl⟩, ?_⟩
    show Steps p.tables e below _ ((({ U with heap := s₂.heap, slotsUsed := s₂.slotsUsed } : State).setVm s₂.vm).setTop { g with pc := g.pc + len₂, stack := v.toList ++ g.stack })
    rw [← hs₂]
    exact hsteps
  · obtain ⟨e2, q2, q3, q4, q5, q6⟩ := id hsm
    have e3 : s₂ = ({ (U.calling g mk a).setFrames s₂.frames with heap := s₂.heap, slotsUsed := s₂.slotsUsed } : State).setVm s₂.vm := by
      have : s₂ = ({ s₂ with vm := (U.calling g mk a).vm } : State).setVm s₂.vm := rfl
      rw [e2] at this
      exact this
    have hf₂ : s₂.frames = .throwing q :: .java g :: U.frames.tail := hend
    have hW' : U.WarmedH s₂.vm := hW₂
    have hs₂ : s₂ = ((({ U with heap := s₂.heap, slotsUsed := s₂.slotsUsed } : State).setVm s₂.vm).setTop g).pushFrame (.throwing q) := by
      refine e3.trans ?_
      rw [hf₂, State.calling_eq h.top, State.setFrames_setFrames, State.pushFrame, State.frames_setTop _ hr', State.setTop_of_frames _ hr', State.setFrames_setFrames, hr]
      rfl
    have hsame : U.sameButNew ({ U with heap := s₂.heap, slotsUsed := s₂.slotsUsed } : State) L mc ms := by
      refine ⟨?_, q2, q3, q4, q5, q6⟩
      obtain ⟨t, ht, -⟩ := State.frames_cons hr
      show ({ U with heap := s₂.heap, slotsUsed := s₂.slotsUsed } : State) = { U.setFrames U.frames with heap := s₂.heap, slotsUsed := s₂.slotsUsed }
      rw [State.setFrames_self ht]
    subst hg
    refine Or.inr ⟨q, ⟨(({ U with heap := s₂.heap, slotsUsed := s₂.slotsUsed } : State).setVm s₂.vm), Ls ++ L, c0 + mc, s0 + ms⟩,
      ⟨X.admits, X.cas, X.clock, X.frames, X.room, X.hears, X.method, X.code, (X.here.setHeapUsed s₂.heap s₂.slotsUsed).setVm hW'.alike, X.tail, State.WarmedH.trans X.warmed hW', X.limits, X.bytes, X.same.trans (hsame.setVm s.vm)⟩,
      ⟨g, mk, s₂, L, E, ce, rfl, rfl, hx, hce, hcv, hcl, rfl, hL, rfl, rfl⟩, ?_⟩
    show Steps p.tables e below _ (((({ U with heap := s₂.heap, slotsUsed := s₂.slotsUsed } : State).setVm s₂.vm).setTop g).pushFrame (.throwing q))
    rw [← hs₂]
    exact hsteps
end
variable {p : Program} {l : Launch} {e : Env} {R : Room} {s : State} {m : MethodId} {args : Array Value} {below : List Frame} {meth : Method} {c : Code} {T : State} {H : Heap} {locs : List Loc} {cells slots : Nat}
theorem vx_callVX (X : Stand p l e R s m args below meth c T locs cells slots) (hexec : p.tables.exec = Jvm.exec) {own C : String} {index : Nat} {y : MethodName} {bytes : ByteArray} {maxL : Nat} {ret : Option FieldType} {hh : List (Nat × Nat × Nat × Nat)}
    (hown : s.vm.findClass own = some m.cls) (hlink : (Cond.methodLink own index y).before args s = true) (hinst : (Cond.instanceMethod y).before args s = true) (hsel : (Cond.selects C y y).before args s = true)
    (hcode : (Cond.codeWith y bytes maxL ret hh).before args s = true) (hy : y.cls ≠ "java/lang/invoke/MethodHandle" ∧ y.cls ≠ "java/lang/invoke/VarHandle")
    {W9 : Nat} {Pre : Pt → Array Value → Prop} {Post : Pt → Array Value → Option Value → Pt → Prop} {PostX : Pt → Array Value → Addr → Pt → Prop} (hK : vx_Back l R p e below s args y 3 W9 Pre Post PostX)
    {b : Addr} {cellB : Cell} (hcell : T.heap[b]? = some cellB) (hobj : cellB.vm.isStatics = false) (hcls : s.vm.findClass C = some cellB.cls)
    {g : JFrame} (hg : g.method = m) (hsize : g.locals.size = c.maxLocals) {argsL rest : List Value} (hlen : ∀ sig, parseMethodDescriptor y.desc = some sig → argsL.length = sig.parameters.length)
    (hstack : g.stack = argsL.reverse ++ .ref b :: rest) (hW : 2 * g.monitorRoom + (rest.map fun v => v.category).sum ≤ W9) (hdg : decode c.code g.pc = .ok (.invokevirtual index, 3))
    (hpre : ∀ vm₁, s.WarmedH vm₁ → Pre ⟨T.setVm vm₁, locs, cells, slots⟩ (Value.ref b :: argsL).toArray) :
    (∃ (v : Option Value) (vm₁ : Vm) (B : Pt), s.WarmedH vm₁ ∧ Stand p l e R s m args below meth c B.U B.locs B.cells B.slots ∧ Post ⟨T.setVm vm₁, locs, cells, slots⟩ (Value.ref b :: argsL).toArray v B ∧
      ∀ target, Steps p.tables e below (B.U.setTop { g with pc := g.pc + 3, stack := v.toList ++ rest }) target → Steps p.tables e below (T.setTop g) target) ∨
    (∃ (q : Addr) (vm₁ : Vm) (B : Pt), s.WarmedH vm₁ ∧ Stand p l e R s m args below meth c B.U B.locs B.cells B.slots ∧ PostX ⟨T.setVm vm₁, locs, cells, slots⟩ (Value.ref b :: argsL).toArray q B ∧
      Steps p.tables e below (T.setTop g) ((B.U.setTop { g with stack := rest }).pushFrame (.throwing q))) := by
  obtain ⟨mk, methM, hnamed, hmethM, hstM, habM⟩ := Cond.instanceMethod_spec hinst
  obtain ⟨m8, methM', cM, hn8, hmethM', -, -, -, -, -, -, hsigM⟩ := Cond.codeWith_spec hcode
  cases Option.some.inj (hn8.symm.trans hnamed)
  cases hmethM.symm.trans hmethM'
  obtain ⟨c2, r2, m2, q1, q2, q3, q4, kP, hkP, hkPi⟩ := Cond.selects_spec hsel
  cases hcls.symm.trans q1
  cases (State.methodFound?_of_named hnamed hy).symm.trans q2
  cases hnamed.symm.trans q3
  have hselP : selectMethod e.platform s.vm cellB.cls mk = .method mk := by rw [Launch.admits_selectMethod X.admits]; exact q4
  obtain ⟨vm₁, X₁, hstep₁⟩ := X.invokevirtual hexec hown hlink hnamed hmethM hstM hkP hkPi hy (a := b) (cell := cellB) hcell
    (fun z h => by rw [h] at hobj; cases hobj) hselP hmethM habM hkP hkPi (g := g) hg (argsL := argsL) (rest := rest) (hlen _ hsigM) hstack hdg
  rcases hK m meth c ⟨T.setVm vm₁, locs, cells, slots⟩ { g with stack := rest } (.invokevirtual index) mk (Value.ref b :: argsL).toArray X₁ hg hsize hdg hW (X₁.named hnamed) (hpre vm₁ X₁.warmed) with ⟨v, B, X', hpost, hsteps⟩ | ⟨q, B, X', hpost, hsteps⟩
  · exact Or.inl ⟨v, vm₁, B, X₁.warmed, X', hpost, fun target h => hstep₁ _ fun acts => by rw [doInvoke_state]; exact hsteps.trans h⟩
  · exact Or.inr ⟨q, vm₁, B, X₁.warmed, X', hpost, hstep₁ _ fun acts => by rw [doInvoke_state]; exact hsteps⟩
theorem vx_callSX (X : Stand p l e R s m args below meth c T locs cells slots) (hexec : p.tables.exec = Jvm.exec) {own : String} {index : Nat} {y : MethodName} {bytes : ByteArray} {maxL : Nat} {ret : Option FieldType} {hh : List (Nat × Nat × Nat × Nat)}
    (hown : s.vm.findClass own = some m.cls) (hlink : (Cond.methodLink own index y).before args s = true) (hstat : (Cond.static y).before args s = true) (hinit : (Cond.initialized y.cls).before args s = true)
    (hcode : (Cond.codeWith y bytes maxL ret hh).before args s = true) (hy : y.cls ≠ "java/lang/invoke/MethodHandle" ∧ y.cls ≠ "java/lang/invoke/VarHandle")
    {W9 : Nat} {Pre : Pt → Array Value → Prop} {Post : Pt → Array Value → Option Value → Pt → Prop} {PostX : Pt → Array Value → Addr → Pt → Prop} (hK : vx_Back l R p e below s args y 3 W9 Pre Post PostX)
    {g : JFrame} (hg : g.method = m) (hsize : g.locals.size = c.maxLocals) {argsL rest : List Value} (hlen : ∀ sig, parseMethodDescriptor y.desc = some sig → argsL.length = sig.parameters.length)
    (hstack : g.stack = argsL.reverse ++ rest) (hW : 2 * g.monitorRoom + (rest.map fun v => v.category).sum ≤ W9) (hdg : decode c.code g.pc = .ok (.invokestatic index, 3))
    (hpre : ∀ vm₁, s.WarmedH vm₁ → Pre ⟨T.setVm vm₁, locs, cells, slots⟩ argsL.toArray) :
    (∃ (v : Option Value) (vm₁ : Vm) (B : Pt), s.WarmedH vm₁ ∧ Stand p l e R s m args below meth c B.U B.locs B.cells B.slots ∧ Post ⟨T.setVm vm₁, locs, cells, slots⟩ argsL.toArray v B ∧
      ∀ target, Steps p.tables e below (B.U.setTop { g with pc := g.pc + 3, stack := v.toList ++ rest }) target → Steps p.tables e below (T.setTop g) target) ∨
    (∃ (q : Addr) (vm₁ : Vm) (B : Pt), s.WarmedH vm₁ ∧ Stand p l e R s m args below meth c B.U B.locs B.cells B.slots ∧ PostX ⟨T.setVm vm₁, locs, cells, slots⟩ argsL.toArray q B ∧
      Steps p.tables e below (T.setTop g) ((B.U.setTop { g with stack := rest }).pushFrame (.throwing q))) := by
  obtain ⟨mk, methM, cM, hnamed, hmethM, -, -, -, -, -, -, hsigM⟩ := Cond.codeWith_spec hcode
  have hstatic : methM.isStatic = true := Cond.static_spec hnamed hmethM hstat
  obtain ⟨kP, hkP, -⟩ := className_of_methodNamed hnamed
  have hinitP : kP.init = .initialized := Cond.initialized_spec (findClass_of_methodNamed hnamed) hkP hinit
  obtain ⟨vm₁, X₁, hstep₁⟩ := X.invokestatic hexec hown hlink hnamed hmethM hstatic hkP hinitP hy (g := g) hg (argsL := argsL) (rest := rest) (hlen _ hsigM) hstack hdg
  rcases hK m meth c ⟨T.setVm vm₁, locs, cells, slots⟩ { g with stack := rest } (.invokestatic index) mk argsL.toArray X₁ hg hsize hdg hW (X₁.named hnamed) (hpre vm₁ X₁.warmed) with ⟨v, B, X', hpost, hsteps⟩ | ⟨q, B, X', hpost, hsteps⟩
  · exact Or.inl ⟨v, vm₁, B, X₁.warmed, X', hpost, fun target h => hstep₁ _ fun acts => by rw [doInvoke_state]; exact hsteps.trans h⟩
  · exact Or.inr ⟨q, vm₁, B, X₁.warmed, X', hpost, hstep₁ _ fun acts => by rw [doInvoke_state]; exact hsteps⟩
theorem vx_callVW (X : Stand p l e R s m args below meth c T locs cells slots) (hexec : p.tables.exec = Jvm.exec) {own C : String} {index : Nat} {y : MethodName} {bytes : ByteArray} {maxL : Nat} {ret : Option FieldType} {hh : List (Nat × Nat × Nat × Nat)}
    (hown : s.vm.findClass own = some m.cls) (hlink : (Cond.methodLink own index y).before args s = true) (hinst : (Cond.instanceMethod y).before args s = true) (hsel : (Cond.selects C y y).before args s = true)
    (hcode : (Cond.codeWith y bytes maxL ret hh).before args s = true) (hy : y.cls ≠ "java/lang/invoke/MethodHandle" ∧ y.cls ≠ "java/lang/invoke/VarHandle")
    {W9 : Nat} {Pre : Pt → Array Value → Prop} {Post : Pt → Array Value → Option Value → Pt → Prop} (hK : Back l R p e below s args y 3 W9 Pre Post)
    {b : Addr} {cellB : Cell} (hcell : T.heap[b]? = some cellB) (hobj : cellB.vm.isStatics = false) (hcls : s.vm.findClass C = some cellB.cls)
    {g : JFrame} (hg : g.method = m) (hsize : g.locals.size = c.maxLocals) {argsL rest : List Value} (hlen : ∀ sig, parseMethodDescriptor y.desc = some sig → argsL.length = sig.parameters.length)
    (hstack : g.stack = argsL.reverse ++ .ref b :: rest) (hW : 2 * g.monitorRoom + (rest.map fun v => v.category).sum ≤ W9) (hdg : decode c.code g.pc = .ok (.invokevirtual index, 3))
    (hpre : ∀ vm₁, s.WarmedH vm₁ → Pre ⟨T.setVm vm₁, locs, cells, slots⟩ (Value.ref b :: argsL).toArray) :
    ∃ (v : Option Value) (vm₁ : Vm) (B : Pt), s.WarmedH vm₁ ∧ Stand p l e R s m args below meth c B.U B.locs B.cells B.slots ∧ Post ⟨T.setVm vm₁, locs, cells, slots⟩ (Value.ref b :: argsL).toArray v B ∧
      ∀ target, Steps p.tables e below (B.U.setTop { g with pc := g.pc + 3, stack := v.toList ++ rest }) target → Steps p.tables e below (T.setTop g) target := by
  obtain ⟨mk, methM, hnamed, hmethM, hstM, habM⟩ := Cond.instanceMethod_spec hinst
  obtain ⟨m8, methM', cM, hn8, hmethM', -, -, -, -, -, -, hsigM⟩ := Cond.codeWith_spec hcode
  cases Option.some.inj (hn8.symm.trans hnamed)
  cases hmethM.symm.trans hmethM'
  obtain ⟨c2, r2, m2, q1, q2, q3, q4, kP, hkP, hkPi⟩ := Cond.selects_spec hsel
  cases hcls.symm.trans q1
  cases (State.methodFound?_of_named hnamed hy).symm.trans q2
  cases hnamed.symm.trans q3
  have hselP : selectMethod e.platform s.vm cellB.cls mk = .method mk := by rw [Launch.admits_selectMethod X.admits]; exact q4
  obtain ⟨vm₁, X₁, hstep₁⟩ := X.invokevirtual hexec hown hlink hnamed hmethM hstM hkP hkPi hy (a := b) (cell := cellB) hcell
    (fun z h => by rw [h] at hobj; cases hobj) hselP hmethM habM hkP hkPi (g := g) hg (argsL := argsL) (rest := rest) (hlen _ hsigM) hstack hdg
  obtain ⟨v, B, X', hpost, hsteps⟩ := hK m meth c ⟨T.setVm vm₁, locs, cells, slots⟩ { g with stack := rest } (.invokevirtual index) mk (Value.ref b :: argsL).toArray X₁ hg hsize hdg hW (X₁.named hnamed) (hpre vm₁ X₁.warmed)
  exact ⟨v, vm₁, B, X₁.warmed, X', hpost, fun target h => hstep₁ _ fun acts => by rw [doInvoke_state]; exact hsteps.trans h⟩
abbrev vx_CVW (R : Room) (s : State) (args : Array Value) (own C : String) (index : Nat) (y : MethodName) (bytes : ByteArray) (maxL : Nat) (ret : Option FieldType) (hh : List (Nat × Nat × Nat × Nat)) (ws : List Cond) (rm : Room) (mc ms n : Nat) : Prop :=
  (rm.cells = mc ∧ rm.slots = ms ∧ rm.frames + 1 ≤ R.frames ∧ 8 + (maxL + 11) + rm.locals ≤ R.locals ∧ (∀ w ∈ ws, ∀ (a' : Array Value) (U : State), s.WarmedH U.vm → w.before a' U = true) ∧ Cond.codeWith y bytes maxL ret hh ∈ ws) ∧
  (Cond.codeWith y bytes maxL ret hh).before args s = true ∧ (Cond.initialized y.cls).before args s = true ∧ (y.cls ≠ "java/lang/invoke/MethodHandle" ∧ y.cls ≠ "java/lang/invoke/VarHandle") ∧
  (∀ sig, parseMethodDescriptor y.desc = some sig → n = sig.parameters.length) ∧ (Cond.methodLink own index y).before args s = true ∧ (Cond.instanceMethod y).before args s = true ∧ (Cond.selects C y y).before args s = true
theorem vx_cwVW {own C : String} {index maxL mc ms : Nat} {y : MethodName} {bytes : ByteArray} {ret : Option FieldType} {hh : List (Nat × Nat × Nat × Nat)} {Ts ws ws' : List Cond} {rm : Room} (n : Nat) (ht : ∀ w ∈ Ts, w.before args s = true) (hT : GoodIn Ts (wsV own index C y ws)) (hw : ws = Cond.codeWith y bytes maxL ret hh :: ws') (hrc : rm.cells = mc) (hrs : rm.slots = ms)
    (hd : y.cls = C ∧ y.cls ≠ "java/lang/invoke/MethodHandle" ∧ y.cls ≠ "java/lang/invoke/VarHandle" ∧ (parseMethodDescriptor y.desc).map (fun d => d.parameters.length) = some n) (hR : rm.frames + 1 ≤ R.frames ∧ 8 + (maxL + 11) + rm.locals ≤ R.locals) :
    vx_CVW R s args own C index y bytes maxL ret hh ws rm mc ms n := by
  obtain ⟨hC, hd⟩ := hd
  subst hC
  have ok : ∀ w ∈ wsV own index y.cls y ws, w.before args s = true := fun w h => ht w (hT w h).1
  have hG : GoodIn Ts ws := fun w h => hT w (by unfold wsV; exact List.mem_append_right _ h)
  have hc : Cond.codeWith y bytes maxL ret hh ∈ ws := by rw [hw]; exact List.mem_cons_self
  refine ⟨⟨hrc, hrs, hR.1, hR.2, pay_in ht hG, hc⟩, ht _ (hG _ hc).1, ok _ (by simp [wsV]), ⟨hd.1, hd.2.1⟩, fun sig h => ?_, ok _ (by simp [wsV]), ok _ (by simp [wsV]), ok _ (by simp [wsV])⟩
  have h2 := hd.2.2
  rw [h] at h2
  exact (Option.some.inj h2).symm
theorem vx_runVW {y : MethodName} {bytes cc : ByteArray} {maxL nL mc ms n index : Nat} {ret : Option FieldType} {hh : List (Nat × Nat × Nat × Nat)} {ws : List Cond} {rm : Room} {Pc : Array Value → State → Prop} {Qc : Array Value → State → Outcome → State → Prop} {free : Addr → Prop} {Ts : List Cond} {own C : String} {b : Addr} {As rest : List Value} {g : JFrame}
    (S : CallFix p m c cc nL s args Ts own) (hM : Met l y ws rm Pc Qc mc ms free) (cw : vx_CVW R s args own C index y bytes maxL ret hh ws rm mc ms n) (hp : PreV s H C b Pc As)
    (hg : g.method = m) (hn : As.length = n) (hsize : g.locals.size = nL) (hstack : g.stack = As.reverse ++ .ref b :: rest) (hW : 2 * g.monitorRoom + (rest.map fun v => v.category).sum ≤ 8) (hdg : decode cc g.pc = .ok (.invokevirtual index, 3)) (hf : cells + mc ≤ R.cells ∧ slots + ms ≤ R.slots) :
    va_Run p l e R s m args below meth c H locs cells slots mc ms g rest (Qc (Value.ref b :: As).toArray) free := by
  obtain ⟨⟨hrc, hrs, hfr, hlo, hws, hcw⟩, hcode, hini, hy, hlen, hl, hin, hse⟩ := cw
  have hK : Back l R p e below s args y 3 8 (PreOf R mc ms Pc) (PostOf Qc mc ms free) := va_backW (hh := hh) (bytes := bytes) (maxL := maxL) (ret := ret) hM hp.1 hrc hrs hfr hlo hws hcw (fun a' U hW => word_at hW (Or.inl (by first | rfl | simp [Cond.onTables, Cond.keeps, Cond.steady])) hini)
  obtain ⟨hx, hb, hml, ho, -⟩ := S
  obtain ⟨-, ⟨cellB, hcB, hoB, hclB⟩, hPc⟩ := hp
  intro T hT X
  obtain ⟨v, vm₁, ⟨U', l2, c2, s2⟩, hW₁, X', ⟨g', mk, t, L, e1, e2, hq, h1, hL, h2, h3⟩, st⟩ := vx_callVW X hx (C := C) (hh := hh) (bytes := bytes) (maxL := maxL) (ret := ret) ho hl hin hse hcode hy hK (by rw [hT]; exact hcB) hoB hclB hg (hsize.trans hml.symm) (argsL := As) (rest := rest) (fun sig h => hn.trans (hlen sig h)) hstack hW (by rw [hb]; exact hdg)
    (fun vm₁ hW₁ => ⟨hf.1, hf.2, hPc (T.setVm vm₁) hT hW₁⟩)
  dsimp only [Pt.U, Pt.locs, Pt.cells, Pt.slots] at X' e1 e2 h1 h2 h3 st
  subst h1; subst h2; subst h3
  exact ⟨v, (T.setVm vm₁).calling g' mk (Value.ref b :: As).toArray, t, U', L, hT, X', hL, e1, e2, hq, st⟩
section
variable {y : MethodName} {bytes cc : ByteArray} {maxL nL mc ms n index : Nat} {ret : Option FieldType} {ws : List Cond} {rm : Room} {Pc : Array Value → State → Prop} {Qc : Array Value → State → Outcome → State → Prop} {XC : String → State → State → Prop} {free : Addr → Prop} {Ts : List Cond} {own C : String} {b : Addr} {As rest : List Value} {g : JFrame}
theorem vx_runVX {hh : List (Nat × Nat × Nat × Nat)} (S : CallFix p m c cc nL s args Ts own) (hM : vx_Met l y ws rm Pc Qc XC mc ms free) (cw : vx_CVW R s args own C index y bytes maxL ret hh ws rm mc ms n) (hp : PreV s H C b Pc As)
    (hg : g.method = m) (hn : As.length = n) (hsize : g.locals.size = nL) (hstack : g.stack = As.reverse ++ .ref b :: rest) (hW : 2 * g.monitorRoom + (rest.map fun v => v.category).sum ≤ 8) (hdg : decode cc g.pc = .ok (.invokevirtual index, 3)) (hf : cells + mc ≤ R.cells ∧ slots + ms ≤ R.slots) :
    vx_Run p l e R s m args below meth c H locs cells slots mc ms g rest (Qc (Value.ref b :: As).toArray) XC free := by
  obtain ⟨⟨hrc, hrs, hfr, hlo, hws, hcw⟩, hcode, hini, hy, hlen, hl, hin, hse⟩ := cw
  have hK : vx_Back l R p e below s args y 3 8 (PreOf R mc ms Pc) (PostOf Qc mc ms free) (vx_Post XC mc ms free) := vx_backW (hh := hh) (bytes := bytes) (maxL := maxL) (ret := ret) hM hp.1 hrc hrs hfr hlo hws hcw (fun a' U hW => word_at hW (Or.inl (by first | rfl | simp [Cond.onTables, Cond.keeps, Cond.steady])) hini)
  obtain ⟨hx, hb, hml, ho, -⟩ := S
  obtain ⟨-, ⟨cellB, hcB, hoB, hclB⟩, hPc⟩ := hp
  intro T hT X
  rcases vx_callVX X hx (C := C) (hh := hh) (bytes := bytes) (maxL := maxL) (ret := ret) ho hl hin hse hcode hy hK (by rw [hT]; exact hcB) hoB hclB hg (hsize.trans hml.symm) (argsL := As) (rest := rest) (fun sig h => hn.trans (hlen sig h)) hstack hW (by rw [hb]; exact hdg)
    (fun vm₁ hW₁ => ⟨hf.1, hf.2, hPc (T.setVm vm₁) hT hW₁⟩) with ⟨v, vm₁, ⟨U', l2, c2, s2⟩, hW₁, X', ⟨g', mk, t, L, e1, e2, hq, h1, hL, h2, h3⟩, st⟩ | ⟨q, vm₁, ⟨U', l2, c2, s2⟩, hW₁, X', ⟨g', mk, t, L, E, ce, e1, e2, hq, hce, hcv, hcl, h1, hL, h2, h3⟩, st⟩
  · dsimp only [Pt.U, Pt.locs, Pt.cells, Pt.slots] at X' e1 e2 h1 h2 h3 st
    subst h1; subst h2; subst h3
    exact Or.inl ⟨v, (T.setVm vm₁).calling g' mk (Value.ref b :: As).toArray, t, U', L, hT, X', hL, e1, e2, hq, st⟩
  · dsimp only [Pt.U, Pt.locs, Pt.cells, Pt.slots] at X' e1 e2 h1 h2 h3 st hcl
    subst h1; subst h2; subst h3
    exact Or.inr ⟨q, (T.setVm vm₁).calling g' mk (Value.ref b :: As).toArray, t, U', L, E, ce, hT, X', hL, e1, e2, hq, hce, hcv, vx_cls hW₁ hcl, st⟩
theorem vx_runSX {hh : List (Nat × Nat × Nat × Nat)} (S : CallFix p m c cc nL s args Ts own) (hM : vx_Met l y ws rm Pc Qc XC mc ms free) (cw : vx_CSW R s args own index y bytes maxL ret hh ws rm mc ms n) (hp : PreS s H Pc As)
    (hg : g.method = m) (hn : As.length = n) (hsize : g.locals.size = nL) (hstack : g.stack = As.reverse ++ rest) (hW : 2 * g.monitorRoom + (rest.map fun v => v.category).sum ≤ 8) (hdg : decode cc g.pc = .ok (.invokestatic index, 3)) (hf : cells + mc ≤ R.cells ∧ slots + ms ≤ R.slots) :
    vx_Run p l e R s m args below meth c H locs cells slots mc ms g rest (Qc As.toArray) XC free := by
  obtain ⟨⟨hrc, hrs, hfr, hlo, hws, hcw⟩, hcode, hini, hy, hlen, hl, hstt⟩ := cw
  have hK : vx_Back l R p e below s args y 3 8 (PreOf R mc ms Pc) (PostOf Qc mc ms free) (vx_Post XC mc ms free) := vx_backW (hh := hh) (bytes := bytes) (maxL := maxL) (ret := ret) hM hp.1 hrc hrs hfr hlo hws hcw (fun a' U hW => word_at hW (Or.inl (by first | rfl | simp [Cond.onTables, Cond.keeps, Cond.steady])) hini)
  obtain ⟨hx, hb, hml, ho, -⟩ := S
  intro T hT X
  rcases vx_callSX X hx (hh := hh) (bytes := bytes) (maxL := maxL) (ret := ret) ho hl hstt hini hcode hy hK hg (hsize.trans hml.symm) (argsL := As) (rest := rest) (fun sig h => hn.trans (hlen sig h)) hstack hW (by rw [hb]; exact hdg)
    (fun vm₁ hW₁ => ⟨hf.1, hf.2, hp.2 (T.setVm vm₁) hT hW₁⟩) with ⟨v, vm₁, ⟨U', l2, c2, s2⟩, hW₁, X', ⟨g', mk, t, L, e1, e2, hq, h1, hL, h2, h3⟩, st⟩ | ⟨q, vm₁, ⟨U', l2, c2, s2⟩, hW₁, X', ⟨g', mk, t, L, E, ce, e1, e2, hq, hce, hcv, hcl, h1, hL, h2, h3⟩, st⟩
  · dsimp only [Pt.U, Pt.locs, Pt.cells, Pt.slots] at X' e1 e2 h1 h2 h3 st
    subst h1; subst h2; subst h3
    exact Or.inl ⟨v, (T.setVm vm₁).calling g' mk As.toArray, t, U', L, hT, X', hL, e1, e2, hq, st⟩
  · dsimp only [Pt.U, Pt.locs, Pt.cells, Pt.slots] at X' e1 e2 h1 h2 h3 st hcl
    subst h1; subst h2; subst h3
    exact Or.inr ⟨q, (T.setVm vm₁).calling g' mk As.toArray, t, U', L, E, ce, hT, X', hL, e1, e2, hq, hce, hcv, vx_cls hW₁ hcl, st⟩
end
end VXH
theorem vx_ofWH {l : Launch} {y : MethodName} {ws ws' : List Cond} {rm : Room} {Pc : Array Value → State → Prop} {Qc : Array Value → State → Outcome → State → Prop} {XC : String → State → State → Prop} {mc ms : Nat} {free : Addr → Prop} {cc : ByteArray} {maxL : Nat} {ret : Option FieldType} {hh : List (Nat × Nat × Nat × Nat)}
    (hy : plainName y.cls = true) (hw : ws = Cond.codeWith y cc maxL ret hh :: ws')
    (body : ∀ p e s m args below meth c s₁, BodyLoose p l y (headSpec ws rm) cc maxL ret e s m args below meth c s₁ → c.maxLocals = maxL → Pc args s →
      W p l e (headSpec ws rm).room s m args below meth c s.heap [] 0 0 (vx_MQ below Qc XC args s mc ms free) (entryFrame m args maxL)) : vx_Met l y ws rm Pc Qc XC mc ms free := by
  refine MetFree.of_bodyS (code := cc) (maxLocals := maxL) (ret := ret) hy ?_ ?_
  · intro args s m h hn
    obtain ⟨m9, meth, c, hn9, h1, h2, h3, h4, -, h5, h6, -⟩ := Cond.codeWith_spec (atoms_spec (ws := ws) h _ (by rw [hw]; exact List.mem_cons_self))
    cases hn.symm.trans hn9
    exact ⟨meth, c, h1, h2, h3, h4, h5, h6⟩
  · intro p e s m args below meth c s₁ B hml hP _
    have hh0 : s₁.heap = s.heap := by rw [B.state]; rfl
    obtain ⟨t, a1, o, b1, b2, b3⟩ := body p e s m args below meth c s₁ B hml hP s₁ hh0 (Stand.of_body B)
    exact ⟨t, o, a1, b1, b2, b3⟩
/-! ===== END ===== -/
end
section
/-! ===== BEGIN printed: names, fields, word lists, decode rows ===== -/
def RX0 : String := "VaneHouse$AgendaEntry"
def TX0 : u_T := fun k => match k with
  | 0 => ("VaneHouse$AgendaEntry", "motion", "LVaneHouse$Motion;", true)
  | _ => ("VaneHouse$AgendaEntry", "hour", "I", true)
def tyX0 : Nat → FieldType := fun k => match k with
  | 0 => .object "VaneHouse$Motion"
  | _ => .int
abbrev wsX00 : List Cond := u_ws RX0 TX0 2
theorem nmX0 : ∀ a, a < 2 → ∀ b, b < 2 → a ≠ b → (TX0 a).2.1 ≠ (TX0 b).2.1 := by decide +kernel
theorem tyX0_ok : ∀ k, k < 2 → parseFieldDescriptor (TX0 k).2.2.1 = some (tyX0 k) := by decide +kernel
abbrev cX0_init : ByteArray := prog_2_method_1_code
def yX0_init : MethodName := ⟨RX0, "<init>", "(LVaneHouse$Motion;I)V"⟩
def RX1 : String := "VaneHouse$Mast"
def TX1 : u_T := fun k => match k with
  | 0 => ("VaneHouse$Mast", "column", "I", true)
  | 1 => ("VaneHouse$Mast", "row", "I", true)
  | 2 => ("VaneHouse$Mast", "height", "I", true)
  | 3 => ("VaneHouse$Mast", "weight", "I", true)
  | _ => ("VaneHouse$Mast", "higherOnes", "[I", true)
def tyX1 : Nat → FieldType := fun k => match k with
  | 0 => .int
  | 1 => .int
  | 2 => .int
  | 3 => .int
  | _ => .array .int
abbrev wsX10 : List Cond := u_ws RX1 TX1 5
theorem nmX1 : ∀ a, a < 5 → ∀ b, b < 5 → a ≠ b → (TX1 a).2.1 ≠ (TX1 b).2.1 := by decide +kernel
theorem tyX1_ok : ∀ k, k < 5 → parseFieldDescriptor (TX1 k).2.2.1 = some (tyX1 k) := by decide +kernel
abbrev cX1_init : ByteArray := prog_3_method_1_code
def yX1_init : MethodName := ⟨RX1, "<init>", "(IIII)V"⟩
abbrev cX1_lookAt : ByteArray := prog_3_method_2_code
def yX1_lookAt : MethodName := ⟨RX1, "lookAt", "(LVaneHouse$Mast;)V"⟩
abbrev cX1_isInLine : ByteArray := prog_3_method_3_code
def yX1_isInLine : MethodName := ⟨RX1, "isInLine", "(LVaneHouse$Mast;I)Z"⟩
abbrev cX1_leeOf : ByteArray := prog_3_method_4_code
def yX1_leeOf : MethodName := ⟨RX1, "leeOf", "(LVaneHouse$Wind;)I"⟩
def RX2 : String := "VaneHouse$Motion"
def TX2 : u_T := fun k => match k with
  | 0 => ("VaneHouse$Motion", "number", "I", true)
  | 1 => ("VaneHouse$Motion", "direction", "I", true)
  | 2 => ("VaneHouse$Motion", "spread", "I", true)
  | 3 => ("VaneHouse$Motion", "quorum", "I", true)
  | 4 => ("VaneHouse$Motion", "effect", "I", true)
  | 5 => ("VaneHouse$Motion", "votings", "I", false)
  | _ => ("VaneHouse$Motion", "passings", "I", false)
def tyX2 : Nat → FieldType := fun k => match k with
  | 0 => .int
  | 1 => .int
  | 2 => .int
  | 3 => .int
  | 4 => .int
  | 5 => .int
  | _ => .int
abbrev wsX20 : List Cond := u_ws RX2 TX2 7
theorem nmX2 : ∀ a, a < 7 → ∀ b, b < 7 → a ≠ b → (TX2 a).2.1 ≠ (TX2 b).2.1 := by decide +kernel
theorem tyX2_ok : ∀ k, k < 7 → parseFieldDescriptor (TX2 k).2.2.1 = some (tyX2 k) := by decide +kernel
abbrev cX2_init : ByteArray := prog_4_method_1_code
def yX2_init : MethodName := ⟨RX2, "<init>", "(IIIII)V"⟩
abbrev cX2_tell : ByteArray := prog_4_method_2_code
def yX2_tell : MethodName := ⟨RX2, "tell", "(ILVaneHouse$Town;)I"⟩
abbrev cX2_sideOf : ByteArray := prog_4_method_3_code
def yX2_sideOf : MethodName := ⟨RX2, "sideOf", "(LVaneHouse$Vane;)I"⟩
abbrev cX2_noteVoting : ByteArray := prog_4_method_4_code
def yX2_noteVoting : MethodName := ⟨RX2, "noteVoting", "(Z)V"⟩
def RX3 : String := "VaneHouse$Town"
def TX3 : u_T := fun k => match k with
  | _ => ("VaneHouse$Town", "vanes", "Ljava/util/ArrayList;", true)
def tyX3 : Nat → FieldType := fun k => match k with
  | _ => .object "java/util/ArrayList"
abbrev wsX30 : List Cond := u_ws RX3 TX3 1
theorem nmX3 : ∀ a, a < 1 → ∀ b, b < 1 → a ≠ b → (TX3 a).2.1 ≠ (TX3 b).2.1 := by decide +kernel
theorem tyX3_ok : ∀ k, k < 1 → parseFieldDescriptor (TX3 k).2.2.1 = some (tyX3 k) := by decide +kernel
abbrev cX3_init : ByteArray := prog_5_method_1_code
def yX3_init : MethodName := ⟨RX3, "<init>", "()V"⟩
abbrev cX3_copyAllFrom : ByteArray := prog_5_method_2_code
def yX3_copyAllFrom : MethodName := ⟨RX3, "copyAllFrom", "(LVaneHouse$Town;)V"⟩
abbrev cX3_hasOneAt : ByteArray := prog_5_method_3_code
def yX3_hasOneAt : MethodName := ⟨RX3, "hasOneAt", "(II)Z"⟩
abbrev cX3_shelter : ByteArray := prog_5_method_4_code
def yX3_shelter : MethodName := ⟨RX3, "shelter", "(LVaneHouse$Mast;)V"⟩
abbrev cX3_directionOf : ByteArray := prog_5_method_5_code
def yX3_directionOf : MethodName := ⟨RX3, "directionOf", "(I)I"⟩
abbrev cX3_blowOnAll : ByteArray := prog_5_method_6_code
def yX3_blowOnAll : MethodName := ⟨RX3, "blowOnAll", "(LVaneHouse$Wind;)V"⟩
abbrev cX3_rainOnAll : ByteArray := prog_5_method_7_code
def yX3_rainOnAll : MethodName := ⟨RX3, "rainOnAll", "()V"⟩
abbrev cX3_giveEffect : ByteArray := prog_5_method_8_code
def yX3_giveEffect : MethodName := ⟨RX3, "giveEffect", "(LVaneHouse$Motion;)V"⟩
abbrev cX3_carries : ByteArray := prog_5_method_9_code
def yX3_carries : MethodName := ⟨RX3, "carries", "(LVaneHouse$Motion;)Z"⟩
abbrev cX3_votesOnSide : ByteArray := prog_5_method_10_code
def yX3_votesOnSide : MethodName := ⟨RX3, "votesOnSide", "(LVaneHouse$Motion;I)I"⟩
abbrev cX3_allVotes : ByteArray := prog_5_method_11_code
def yX3_allVotes : MethodName := ⟨RX3, "allVotes", "()I"⟩
abbrev cX3_votesOf : ByteArray := prog_5_method_12_code
def yX3_votesOf : MethodName := ⟨RX3, "votesOf", "(I)I"⟩
abbrev cX3_vanesOf : ByteArray := prog_5_method_13_code
def yX3_vanesOf : MethodName := ⟨RX3, "vanesOf", "(I)I"⟩
abbrev cX3_boundVanes : ByteArray := prog_5_method_14_code
def yX3_boundVanes : MethodName := ⟨RX3, "boundVanes", "()I"⟩
abbrev cX3_stuckVanes : ByteArray := prog_5_method_15_code
def yX3_stuckVanes : MethodName := ⟨RX3, "stuckVanes", "(LVaneHouse$Wind;)I"⟩
def RX4 : String := "VaneHouse$Vane"
def TX4 : u_T := fun k => match k with
  | 0 => ("VaneHouse$Vane", "mast", "LVaneHouse$Mast;", true)
  | 1 => ("VaneHouse$Vane", "votes", "I", false)
  | 2 => ("VaneHouse$Vane", "rust", "I", false)
  | 3 => ("VaneHouse$Vane", "direction", "I", false)
  | 4 => ("VaneHouse$Vane", "spin", "I", false)
  | 5 => ("VaneHouse$Vane", "bound", "I", false)
  | _ => ("VaneHouse$Vane", "rainyHours", "I", false)
def tyX4 : Nat → FieldType := fun k => match k with
  | 0 => .object "VaneHouse$Mast"
  | 1 => .int
  | 2 => .int
  | 3 => .int
  | 4 => .int
  | 5 => .int
  | _ => .int
abbrev wsX40 : List Cond := u_ws RX4 TX4 7
theorem nmX4 : ∀ a, a < 7 → ∀ b, b < 7 → a ≠ b → (TX4 a).2.1 ≠ (TX4 b).2.1 := by decide +kernel
theorem tyX4_ok : ∀ k, k < 7 → parseFieldDescriptor (TX4 k).2.2.1 = some (tyX4 k) := by decide +kernel
abbrev cX4_init : ByteArray := prog_6_method_1_code
def yX4_init : MethodName := ⟨RX4, "<init>", "(LVaneHouse$Mast;II)V"⟩
abbrev cX4_copyFrom : ByteArray := prog_6_method_2_code
def yX4_copyFrom : MethodName := ⟨RX4, "copyFrom", "(LVaneHouse$Vane;)V"⟩
abbrev cX4_tell : ByteArray := prog_6_method_3_code
def yX4_tell : MethodName := ⟨RX4, "tell", "(ILVaneHouse$Wind;)I"⟩
abbrev cX4_partyNumber : ByteArray := prog_6_method_4_code
def yX4_partyNumber : MethodName := ⟨RX4, "partyNumber", "()I"⟩
abbrev cX4_windHere : ByteArray := prog_6_method_5_code
def yX4_windHere : MethodName := ⟨RX4, "windHere", "(LVaneHouse$Wind;)I"⟩
abbrev cX4_isStuck : ByteArray := prog_6_method_6_code
def yX4_isStuck : MethodName := ⟨RX4, "isStuck", "(LVaneHouse$Wind;)Z"⟩
abbrev cX4_blow : ByteArray := prog_6_method_7_code
def yX4_blow : MethodName := ⟨RX4, "blow", "(LVaneHouse$Wind;)V"⟩
abbrev cX4_nextSpin : ByteArray := prog_6_method_8_code
def yX4_nextSpin : MethodName := ⟨RX4, "nextSpin", "(LVaneHouse$Wind;)I"⟩
abbrev cX4_takeOil : ByteArray := prog_6_method_9_code
def yX4_takeOil : MethodName := ⟨RX4, "takeOil", "()V"⟩
abbrev cX4_takeRain : ByteArray := prog_6_method_10_code
def yX4_takeRain : MethodName := ⟨RX4, "takeRain", "()V"⟩
abbrev cX4_takeEffect : ByteArray := prog_6_method_11_code
def yX4_takeEffect : MethodName := ⟨RX4, "takeEffect", "(II)V"⟩
def RX5 : String := "VaneHouse$Wind"
def TX5 : u_T := fun k => match k with
  | 0 => ("VaneHouse$Wind", "direction", "I", true)
  | 1 => ("VaneHouse$Wind", "strength", "I", true)
  | _ => ("VaneHouse$Wind", "rains", "Z", true)
def tyX5 : Nat → FieldType := fun k => match k with
  | 0 => .int
  | 1 => .int
  | _ => .boolean
abbrev wsX50 : List Cond := u_ws RX5 TX5 3
theorem nmX5 : ∀ a, a < 3 → ∀ b, b < 3 → a ≠ b → (TX5 a).2.1 ≠ (TX5 b).2.1 := by decide +kernel
theorem tyX5_ok : ∀ k, k < 3 → parseFieldDescriptor (TX5 k).2.2.1 = some (tyX5 k) := by decide +kernel
abbrev cX5_init : ByteArray := prog_7_method_1_code
def yX5_init : MethodName := ⟨RX5, "<init>", "(IIZ)V"⟩
abbrev cX5_tell : ByteArray := prog_7_method_2_code
def yX5_tell : MethodName := ⟨RX5, "tell", "(I)I"⟩
abbrev cX5_eighth : ByteArray := prog_7_method_3_code
def yX5_eighth : MethodName := ⟨RX5, "eighth", "()I"⟩
def RX6 : String := "VaneHouse"
def TX6 : u_T := fun k => match k with
  | 0 => ("VaneHouse", "firstWind", "LVaneHouse$Wind;", true)
  | 1 => ("VaneHouse", "winds", "Ljava/util/ArrayList;", true)
  | 2 => ("VaneHouse", "motions", "Ljava/util/ArrayList;", true)
  | 3 => ("VaneHouse", "agenda", "Ljava/util/ArrayList;", true)
  | 4 => ("VaneHouse", "town", "LVaneHouse$Town;", true)
  | 5 => ("VaneHouse", "ahead", "LVaneHouse$Town;", true)
  | 6 => ("VaneHouse", "hour", "I", false)
  | _ => ("VaneHouse", "passings", "I", false)
def tyX6 : Nat → FieldType := fun k => match k with
  | 0 => .object "VaneHouse$Wind"
  | 1 => .object "java/util/ArrayList"
  | 2 => .object "java/util/ArrayList"
  | 3 => .object "java/util/ArrayList"
  | 4 => .object "VaneHouse$Town"
  | 5 => .object "VaneHouse$Town"
  | 6 => .int
  | _ => .int
abbrev wsX60 : List Cond := u_ws RX6 TX6 8
theorem nmX6 : ∀ a, a < 8 → ∀ b, b < 8 → a ≠ b → (TX6 a).2.1 ≠ (TX6 b).2.1 := by decide +kernel
theorem tyX6_ok : ∀ k, k < 8 → parseFieldDescriptor (TX6 k).2.2.1 = some (tyX6 k) := by decide +kernel
abbrev cX6_init : ByteArray := prog_1_method_1_code
def yX6_init : MethodName := ⟨RX6, "<init>", "()V"⟩
abbrev cX6_beginWind : ByteArray := prog_1_method_2_code
def yX6_beginWind : MethodName := ⟨RX6, "beginWind", "(IIZ)I"⟩
abbrev cX6_addWind : ByteArray := prog_1_method_3_code
def yX6_addWind : MethodName := ⟨RX6, "addWind", "(IIZ)I"⟩
abbrev cX6_wind : ByteArray := prog_1_method_4_code
def yX6_wind : MethodName := ⟨RX6, "wind", "(II)I"⟩
abbrev cX6_setUp : ByteArray := prog_1_method_5_code
def yX6_setUp : MethodName := ⟨RX6, "setUp", "(IIIIII)I"⟩
abbrev cX6_oil : ByteArray := prog_1_method_6_code
def yX6_oil : MethodName := ⟨RX6, "oil", "(I)I"⟩
abbrev cX6_turn : ByteArray := prog_1_method_7_code
def yX6_turn : MethodName := ⟨RX6, "turn", "(II)I"⟩
abbrev cX6_vane : ByteArray := prog_1_method_8_code
def yX6_vane : MethodName := ⟨RX6, "vane", "(II)I"⟩
abbrev cX6_difference : ByteArray := prog_1_method_9_code
def yX6_difference : MethodName := ⟨RX6, "difference", "(II)I"⟩
abbrev cX6_move : ByteArray := prog_1_method_10_code
def yX6_move : MethodName := ⟨RX6, "move", "(IIII)I"⟩
abbrev cX6_put : ByteArray := prog_1_method_11_code
def yX6_put : MethodName := ⟨RX6, "put", "(II)I"⟩
abbrev cX6_motion : ByteArray := prog_1_method_12_code
def yX6_motion : MethodName := ⟨RX6, "motion", "(II)I"⟩
abbrev cX6_stand : ByteArray := prog_1_method_13_code
def yX6_stand : MethodName := ⟨RX6, "stand", "(II)I"⟩
abbrev cX6_pass : ByteArray := prog_1_method_14_code
def yX6_pass : MethodName := ⟨RX6, "pass", "(I)I"⟩
abbrev cX6_count : ByteArray := prog_1_method_15_code
def yX6_count : MethodName := ⟨RX6, "count", "(I)I"⟩
abbrev cX6_party : ByteArray := prog_1_method_16_code
def yX6_party : MethodName := ⟨RX6, "party", "(II)I"⟩
abbrev cX6_coalition : ByteArray := prog_1_method_17_code
def yX6_coalition : MethodName := ⟨RX6, "coalition", "()I"⟩
abbrev cX6_foresee : ByteArray := prog_1_method_18_code
def yX6_foresee : MethodName := ⟨RX6, "foresee", "(II)I"⟩
abbrev cX6_passes : ByteArray := prog_1_method_19_code
def yX6_passes : MethodName := ⟨RX6, "passes", "(II)I"⟩
abbrev cX6_advise : ByteArray := prog_1_method_20_code
def yX6_advise : MethodName := ⟨RX6, "advise", "(II)I"⟩
abbrev cX6_discord : ByteArray := prog_1_method_21_code
def yX6_discord : MethodName := ⟨RX6, "discord", "()D"⟩
abbrev cX6_digest : ByteArray := prog_1_method_22_code
def yX6_digest : MethodName := ⟨RX6, "digest", "()J"⟩
abbrev cX6_digestWinds : ByteArray := prog_1_method_23_code
def yX6_digestWinds : MethodName := ⟨RX6, "digestWinds", "(J)J"⟩
abbrev cX6_digestVanes : ByteArray := prog_1_method_24_code
def yX6_digestVanes : MethodName := ⟨RX6, "digestVanes", "(J)J"⟩
abbrev cX6_digestMotions : ByteArray := prog_1_method_25_code
def yX6_digestMotions : MethodName := ⟨RX6, "digestMotions", "(J)J"⟩
abbrev cX6_tally : ByteArray := prog_1_method_26_code
def yX6_tally : MethodName := ⟨RX6, "tally", "(I)I"⟩
abbrev cX6_windAt : ByteArray := prog_1_method_27_code
def yX6_windAt : MethodName := ⟨RX6, "windAt", "(I)LVaneHouse$Wind;"⟩
abbrev cX6_voteAndRain : ByteArray := prog_1_method_28_code
def yX6_voteAndRain : MethodName := ⟨RX6, "voteAndRain", "(LVaneHouse$Town;IZ)I"⟩
abbrev cX6_hoursUntilItPasses : ByteArray := prog_1_method_29_code
def yX6_hoursUntilItPasses : MethodName := ⟨RX6, "hoursUntilItPasses", "(LVaneHouse$Motion;I)I"⟩
abbrev cX6_dropPastEntries : ByteArray := prog_1_method_30_code
def yX6_dropPastEntries : MethodName := ⟨RX6, "dropPastEntries", "()V"⟩
abbrev cX6_isVane : ByteArray := prog_1_method_31_code
def yX6_isVane : MethodName := ⟨RX6, "isVane", "(I)Z"⟩
abbrev cX6_isMotion : ByteArray := prog_1_method_32_code
def yX6_isMotion : MethodName := ⟨RX6, "isMotion", "(I)Z"⟩
abbrev cX6_isDirection : ByteArray := prog_1_method_33_code
def yX6_isDirection : MethodName := ⟨RX6, "isDirection", "(I)Z"⟩
abbrev cX6_isWithin : ByteArray := prog_1_method_34_code
def yX6_isWithin : MethodName := ⟨RX6, "isWithin", "(III)Z"⟩
abbrev cX6_steps : ByteArray := prog_1_method_35_code
def yX6_steps : MethodName := ⟨RX6, "steps", "(II)I"⟩
abbrev cX6_distance : ByteArray := prog_1_method_36_code
def yX6_distance : MethodName := ⟨RX6, "distance", "(II)I"⟩
def RX7 : String := "VaneHouseModel$State"
def TX7 : u_T := fun k => match k with
  | 0 => ("VaneHouseModel$State", "hour", "I", false)
  | 1 => ("VaneHouseModel$State", "winds", "I", false)
  | 2 => ("VaneHouseModel$State", "direction", "[I", true)
  | 3 => ("VaneHouseModel$State", "strength", "[I", true)
  | 4 => ("VaneHouseModel$State", "rains", "[Z", true)
  | 5 => ("VaneHouseModel$State", "vanes", "I", false)
  | 6 => ("VaneHouseModel$State", "vane", "[I", true)
  | 7 => ("VaneHouseModel$State", "motions", "I", false)
  | 8 => ("VaneHouseModel$State", "motion", "[I", true)
  | 9 => ("VaneHouseModel$State", "entries", "I", false)
  | 10 => ("VaneHouseModel$State", "agenda", "[I", true)
  | _ => ("VaneHouseModel$State", "passed", "I", false)
def tyX7 : Nat → FieldType := fun k => match k with
  | 0 => .int
  | 1 => .int
  | 2 => .array .int
  | 3 => .array .int
  | 4 => .array .boolean
  | 5 => .int
  | 6 => .array .int
  | 7 => .int
  | 8 => .array .int
  | 9 => .int
  | 10 => .array .int
  | _ => .int
abbrev wsX70 : List Cond := u_ws RX7 TX7 12
theorem nmX7 : ∀ a, a < 12 → ∀ b, b < 12 → a ≠ b → (TX7 a).2.1 ≠ (TX7 b).2.1 := by decide +kernel
theorem tyX7_ok : ∀ k, k < 12 → parseFieldDescriptor (TX7 k).2.2.1 = some (tyX7 k) := by decide +kernel
abbrev cX7_init : ByteArray := prog_10_method_1_code
def yX7_init : MethodName := ⟨RX7, "<init>", "()V"⟩
abbrev cX7_become : ByteArray := prog_10_method_2_code
def yX7_become : MethodName := ⟨RX7, "become", "(LVaneHouseModel$State;)V"⟩
abbrev cX7_of : ByteArray := prog_10_method_3_code
def yX7_of : MethodName := ⟨RX7, "of", "(II)I"⟩
abbrev cX7_set : ByteArray := prog_10_method_4_code
def yX7_set : MethodName := ⟨RX7, "set", "(III)V"⟩
abbrev cX7_entry : ByteArray := prog_10_method_5_code
def yX7_entry : MethodName := ⟨RX7, "entry", "()I"⟩
abbrev cX7_lee : ByteArray := prog_10_method_6_code
def yX7_lee : MethodName := ⟨RX7, "lee", "(I)I"⟩
abbrev cX7_windAt : ByteArray := prog_10_method_7_code
def yX7_windAt : MethodName := ⟨RX7, "windAt", "(I)I"⟩
abbrev cX7_oil : ByteArray := prog_10_method_8_code
def yX7_oil : MethodName := ⟨RX7, "oil", "(I)V"⟩
abbrev cX7_turn : ByteArray := prog_10_method_9_code
def yX7_turn : MethodName := ⟨RX7, "turn", "()V"⟩
abbrev cX7_end : ByteArray := prog_10_method_10_code
def yX7_end : MethodName := ⟨RX7, "end", "()I"⟩
abbrev cX7_stand : ByteArray := prog_10_method_11_code
def yX7_stand : MethodName := ⟨RX7, "stand", "(II)I"⟩
abbrev cX7_votes : ByteArray := prog_10_method_12_code
def yX7_votes : MethodName := ⟨RX7, "votes", "(II)I"⟩
abbrev cX7_would : ByteArray := prog_10_method_13_code
def yX7_would : MethodName := ⟨RX7, "would", "(I)Z"⟩
abbrev cX7_vote : ByteArray := prog_10_method_14_code
def yX7_vote : MethodName := ⟨RX7, "vote", "(I)I"⟩
abbrev cX7_pass : ByteArray := prog_10_method_15_code
def yX7_pass : MethodName := ⟨RX7, "pass", "()I"⟩
def RX8 : String := "VaneHouseModel"
def TX8 : u_T := fun k => match k with
  | 0 => ("VaneHouseModel", "thrown", "I", false)
  | 1 => ("VaneHouseModel", "s", "LVaneHouseModel$State;", true)
  | _ => ("VaneHouseModel", "ahead", "LVaneHouseModel$State;", true)
def tyX8 : Nat → FieldType := fun k => match k with
  | 0 => .int
  | 1 => .object "VaneHouseModel$State"
  | _ => .object "VaneHouseModel$State"
abbrev wsX80 : List Cond := u_ws RX8 TX8 3
theorem nmX8 : ∀ a, a < 3 → ∀ b, b < 3 → a ≠ b → (TX8 a).2.1 ≠ (TX8 b).2.1 := by decide +kernel
theorem tyX8_ok : ∀ k, k < 3 → parseFieldDescriptor (TX8 k).2.2.1 = some (tyX8 k) := by decide +kernel
abbrev cX8_init : ByteArray := prog_9_method_1_code
def yX8_init : MethodName := ⟨RX8, "<init>", "()V"⟩
abbrev cX8_thrown : ByteArray := prog_9_method_2_code
def yX8_thrown : MethodName := ⟨RX8, "thrown", "()I"⟩
abbrev cX8_no : ByteArray := prog_9_method_3_code
def yX8_no : MethodName := ⟨RX8, "no", "(I)I"⟩
abbrev cX8_isIn : ByteArray := prog_9_method_4_code
def yX8_isIn : MethodName := ⟨RX8, "isIn", "(III)Z"⟩
abbrev cX8_apart : ByteArray := prog_9_method_5_code
def yX8_apart : MethodName := ⟨RX8, "apart", "(II)I"⟩
abbrev cX8_layWind : ByteArray := prog_9_method_6_code
def yX8_layWind : MethodName := ⟨RX8, "layWind", "(IIIZ)V"⟩
abbrev cX8_beginWind : ByteArray := prog_9_method_7_code
def yX8_beginWind : MethodName := ⟨RX8, "beginWind", "(IIZ)I"⟩
abbrev cX8_addWind : ByteArray := prog_9_method_8_code
def yX8_addWind : MethodName := ⟨RX8, "addWind", "(IIZ)I"⟩
abbrev cX8_windTold : ByteArray := prog_9_method_9_code
def yX8_windTold : MethodName := ⟨RX8, "windTold", "(II)I"⟩
abbrev cX8_wind : ByteArray := prog_9_method_10_code
def yX8_wind : MethodName := ⟨RX8, "wind", "(II)I"⟩
abbrev cX8_setUp : ByteArray := prog_9_method_11_code
def yX8_setUp : MethodName := ⟨RX8, "setUp", "(IIIIII)I"⟩
abbrev cX8_isVane : ByteArray := prog_9_method_12_code
def yX8_isVane : MethodName := ⟨RX8, "isVane", "(I)Z"⟩
abbrev cX8_oil : ByteArray := prog_9_method_13_code
def yX8_oil : MethodName := ⟨RX8, "oil", "(I)I"⟩
abbrev cX8_turn : ByteArray := prog_9_method_14_code
def yX8_turn : MethodName := ⟨RX8, "turn", "(II)I"⟩
abbrev cX8_partyOf : ByteArray := prog_9_method_15_code
def yX8_partyOf : MethodName := ⟨RX8, "partyOf", "(I)I"⟩
abbrev cX8_vaneTold : ByteArray := prog_9_method_16_code
def yX8_vaneTold : MethodName := ⟨RX8, "vaneTold", "(II)I"⟩
abbrev cX8_vane : ByteArray := prog_9_method_17_code
def yX8_vane : MethodName := ⟨RX8, "vane", "(II)I"⟩
abbrev cX8_difference : ByteArray := prog_9_method_18_code
def yX8_difference : MethodName := ⟨RX8, "difference", "(II)I"⟩
abbrev cX8_move : ByteArray := prog_9_method_19_code
def yX8_move : MethodName := ⟨RX8, "move", "(IIII)I"⟩
abbrev cX8_isMotion : ByteArray := prog_9_method_20_code
def yX8_isMotion : MethodName := ⟨RX8, "isMotion", "(I)Z"⟩
abbrev cX8_put : ByteArray := prog_9_method_21_code
def yX8_put : MethodName := ⟨RX8, "put", "(II)I"⟩
abbrev cX8_motionTold : ByteArray := prog_9_method_22_code
def yX8_motionTold : MethodName := ⟨RX8, "motionTold", "(II)I"⟩
abbrev cX8_motion : ByteArray := prog_9_method_23_code
def yX8_motion : MethodName := ⟨RX8, "motion", "(II)I"⟩
abbrev cX8_stand : ByteArray := prog_9_method_24_code
def yX8_stand : MethodName := ⟨RX8, "stand", "(II)I"⟩
abbrev cX8_pass : ByteArray := prog_9_method_25_code
def yX8_pass : MethodName := ⟨RX8, "pass", "(I)I"⟩
abbrev cX8_counted : ByteArray := prog_9_method_26_code
def yX8_counted : MethodName := ⟨RX8, "counted", "(I)I"⟩
abbrev cX8_count : ByteArray := prog_9_method_27_code
def yX8_count : MethodName := ⟨RX8, "count", "(I)I"⟩
abbrev cX8_partyTold : ByteArray := prog_9_method_28_code
def yX8_partyTold : MethodName := ⟨RX8, "partyTold", "(II)I"⟩
abbrev cX8_party : ByteArray := prog_9_method_29_code
def yX8_party : MethodName := ⟨RX8, "party", "(II)I"⟩
abbrev cX8_coalition : ByteArray := prog_9_method_30_code
def yX8_coalition : MethodName := ⟨RX8, "coalition", "()I"⟩
abbrev cX8_foresee : ByteArray := prog_9_method_31_code
def yX8_foresee : MethodName := ⟨RX8, "foresee", "(II)I"⟩
abbrev cX8_first : ByteArray := prog_9_method_32_code
def yX8_first : MethodName := ⟨RX8, "first", "(III)I"⟩
abbrev cX8_passes : ByteArray := prog_9_method_33_code
def yX8_passes : MethodName := ⟨RX8, "passes", "(II)I"⟩
abbrev cX8_advise : ByteArray := prog_9_method_34_code
def yX8_advise : MethodName := ⟨RX8, "advise", "(II)I"⟩
abbrev cX8_discord : ByteArray := prog_9_method_35_code
def yX8_discord : MethodName := ⟨RX8, "discord", "()D"⟩
abbrev cX8_digest : ByteArray := prog_9_method_36_code
def yX8_digest : MethodName := ⟨RX8, "digest", "()J"⟩
def RJx145de : String := "java/io/Serializable"
def TJx145de : u_T := fun k => match k with
  | _ => ("", "", "", false)
def tyJx145de : Nat → FieldType := fun k => match k with
  | _ => .int
abbrev wsJx145de0 : List Cond := u_ws RJx145de TJx145de 0
theorem nmJx145de : ∀ a, a < 0 → ∀ b, b < 0 → a ≠ b → (TJx145de a).2.1 ≠ (TJx145de b).2.1 := by decide +kernel
theorem tyJx145de_ok : ∀ k, k < 0 → parseFieldDescriptor (TJx145de k).2.2.1 = some (tyJx145de k) := by decide +kernel
def RJx8e188 : String := "java/lang/Cloneable"
def TJx8e188 : u_T := fun k => match k with
  | _ => ("", "", "", false)
def tyJx8e188 : Nat → FieldType := fun k => match k with
  | _ => .int
abbrev wsJx8e1880 : List Cond := u_ws RJx8e188 TJx8e188 0
theorem nmJx8e188 : ∀ a, a < 0 → ∀ b, b < 0 → a ≠ b → (TJx8e188 a).2.1 ≠ (TJx8e188 b).2.1 := by decide +kernel
theorem tyJx8e188_ok : ∀ k, k < 0 → parseFieldDescriptor (TJx8e188 k).2.2.1 = some (tyJx8e188 k) := by decide +kernel
def RJ6 : String := "java/lang/Integer"
def TJ6 : u_T := fun k => match k with
  | _ => ("", "", "", false)
def tyJ6 : Nat → FieldType := fun k => match k with
  | _ => .int
abbrev wsJ60 : List Cond := u_ws RJ6 TJ6 0
theorem nmJ6 : ∀ a, a < 0 → ∀ b, b < 0 → a ≠ b → (TJ6 a).2.1 ≠ (TJ6 b).2.1 := by decide +kernel
theorem tyJ6_ok : ∀ k, k < 0 → parseFieldDescriptor (TJ6 k).2.2.1 = some (tyJ6 k) := by decide +kernel
abbrev cJ6_bitCount_0f7a4 : ByteArray := prog_17_method_49_code
def yJ6_bitCount_0f7a4 : MethodName := ⟨RJ6, "bitCount", "(I)I"⟩
abbrev cJ6_signum_0f7a4 : ByteArray := prog_17_method_56_code
def yJ6_signum_0f7a4 : MethodName := ⟨RJ6, "signum", "(I)I"⟩
def RJxab1ab : String := "java/lang/Iterable"
def TJxab1ab : u_T := fun k => match k with
  | _ => ("", "", "", false)
def tyJxab1ab : Nat → FieldType := fun k => match k with
  | _ => .int
abbrev wsJxab1ab0 : List Cond := u_ws RJxab1ab TJxab1ab 0
theorem nmJxab1ab : ∀ a, a < 0 → ∀ b, b < 0 → a ≠ b → (TJxab1ab a).2.1 ≠ (TJxab1ab b).2.1 := by decide +kernel
theorem tyJxab1ab_ok : ∀ k, k < 0 → parseFieldDescriptor (TJxab1ab k).2.2.1 = some (tyJxab1ab k) := by decide +kernel
def RJ9 : String := "java/lang/Math"
def TJ9 : u_T := fun k => match k with
  | _ => ("", "", "", false)
def tyJ9 : Nat → FieldType := fun k => match k with
  | _ => .int
abbrev wsJ90 : List Cond := u_ws RJ9 TJ9 0
theorem nmJ9 : ∀ a, a < 0 → ∀ b, b < 0 → a ≠ b → (TJ9 a).2.1 ≠ (TJ9 b).2.1 := by decide +kernel
theorem tyJ9_ok : ∀ k, k < 0 → parseFieldDescriptor (TJ9 k).2.2.1 = some (tyJ9 k) := by decide +kernel
abbrev cJ9_floorMod_7cf53 : ByteArray := prog_19_method_50_code
def yJ9_floorMod_7cf53 : MethodName := ⟨RJ9, "floorMod", "(II)I"⟩
abbrev cJ9_abs_0f7a4 : ByteArray := prog_19_method_59_code
def yJ9_abs_0f7a4 : MethodName := ⟨RJ9, "abs", "(I)I"⟩
abbrev cJ9_max_7cf53 : ByteArray := prog_19_method_65_code
def yJ9_max_7cf53 : MethodName := ⟨RJ9, "max", "(II)I"⟩
abbrev cJ9_min_7cf53 : ByteArray := prog_19_method_69_code
def yJ9_min_7cf53 : MethodName := ⟨RJ9, "min", "(II)I"⟩
def RJ0 : String := "java/lang/String"
def TJ0 : u_T := fun k => match k with
  | _ => ("", "", "", false)
def tyJ0 : Nat → FieldType := fun k => match k with
  | _ => .int
abbrev wsJ00 : List Cond := u_ws RJ0 TJ0 0
theorem nmJ0 : ∀ a, a < 0 → ∀ b, b < 0 → a ≠ b → (TJ0 a).2.1 ≠ (TJ0 b).2.1 := by decide +kernel
theorem tyJ0_ok : ∀ k, k < 0 → parseFieldDescriptor (TJ0 k).2.2.1 = some (tyJ0 k) := by decide +kernel
def RJ10 : String := "java/lang/System"
def TJ10 : u_T := fun k => match k with
  | _ => ("", "", "", false)
def tyJ10 : Nat → FieldType := fun k => match k with
  | _ => .int
abbrev wsJ100 : List Cond := u_ws RJ10 TJ10 0
theorem nmJ10 : ∀ a, a < 0 → ∀ b, b < 0 → a ≠ b → (TJ10 a).2.1 ≠ (TJ10 b).2.1 := by decide +kernel
theorem tyJ10_ok : ∀ k, k < 0 → parseFieldDescriptor (TJ10 k).2.2.1 = some (tyJ10 k) := by decide +kernel
def RJxa1e45 : String := "java/util/AbstractCollection"
def TJxa1e45 : u_T := fun k => match k with
  | _ => ("", "", "", false)
def tyJxa1e45 : Nat → FieldType := fun k => match k with
  | _ => .int
abbrev wsJxa1e450 : List Cond := u_ws RJxa1e45 TJxa1e45 0
theorem nmJxa1e45 : ∀ a, a < 0 → ∀ b, b < 0 → a ≠ b → (TJxa1e45 a).2.1 ≠ (TJxa1e45 b).2.1 := by decide +kernel
theorem tyJxa1e45_ok : ∀ k, k < 0 → parseFieldDescriptor (TJxa1e45 k).2.2.1 = some (tyJxa1e45 k) := by decide +kernel
abbrev cJxa1e45_init_da8c8 : ByteArray := prog_24_method_1_code
def yJxa1e45_init_da8c8 : MethodName := ⟨RJxa1e45, "<init>", "()V"⟩
def RJxc12de : String := "java/util/AbstractList"
def TJxc12de : u_T := fun k => match k with
  | _ => ("", "", "", false)
def tyJxc12de : Nat → FieldType := fun k => match k with
  | _ => .int
abbrev wsJxc12de0 : List Cond := u_ws RJxc12de TJxc12de 0
theorem nmJxc12de : ∀ a, a < 0 → ∀ b, b < 0 → a ≠ b → (TJxc12de a).2.1 ≠ (TJxc12de b).2.1 := by decide +kernel
theorem tyJxc12de_ok : ∀ k, k < 0 → parseFieldDescriptor (TJxc12de k).2.2.1 = some (tyJxc12de k) := by decide +kernel
abbrev cJxc12de_init_da8c8 : ByteArray := prog_25_method_1_code
def yJxc12de_init_da8c8 : MethodName := ⟨RJxc12de, "<init>", "()V"⟩
def RJx4a65c : String := "java/util/ArrayList"
def TJx4a65c : u_T := fun k => match k with
  | 0 => ("java/util/AbstractList", "modCount", "I", false)
  | 1 => ("java/util/ArrayList", "elementData", "[Ljava/lang/Object;", false)
  | _ => ("java/util/ArrayList", "size", "I", false)
def tyJx4a65c : Nat → FieldType := fun k => match k with
  | 0 => .int
  | 1 => .array (.object "java/lang/Object")
  | _ => .int
abbrev wsJx4a65c0 : List Cond := u_ws RJx4a65c TJx4a65c 3
theorem nmJx4a65c : ∀ a, a < 3 → ∀ b, b < 3 → a ≠ b → (TJx4a65c a).2.1 ≠ (TJx4a65c b).2.1 := by decide +kernel
theorem tyJx4a65c_ok : ∀ k, k < 3 → parseFieldDescriptor (TJx4a65c k).2.2.1 = some (tyJx4a65c k) := by decide +kernel
abbrev cJx4a65c_init_da8c8 : ByteArray := prog_26_method_2_code
def yJx4a65c_init_da8c8 : MethodName := ⟨RJx4a65c, "<init>", "()V"⟩
abbrev cJx4a65c_grow_92f84 : ByteArray := prog_26_method_6_code
def yJx4a65c_grow_92f84 : MethodName := ⟨RJx4a65c, "grow", "(I)[Ljava/lang/Object;"⟩
abbrev cJx4a65c_grow_d5877 : ByteArray := prog_26_method_7_code
def yJx4a65c_grow_d5877 : MethodName := ⟨RJx4a65c, "grow", "()[Ljava/lang/Object;"⟩
abbrev cJx4a65c_size_8abf5 : ByteArray := prog_26_method_8_code
def yJx4a65c_size_8abf5 : MethodName := ⟨RJx4a65c, "size", "()I"⟩
abbrev cJx4a65c_elementData_915e3 : ByteArray := prog_26_method_18_code
def yJx4a65c_elementData_915e3 : MethodName := ⟨RJx4a65c, "elementData", "(I)Ljava/lang/Object;"⟩
abbrev cJx4a65c_get_915e3 : ByteArray := prog_26_method_20_code
def yJx4a65c_get_915e3 : MethodName := ⟨RJx4a65c, "get", "(I)Ljava/lang/Object;"⟩
abbrev cJx4a65c_add_72be8 : ByteArray := prog_26_method_24_code
def yJx4a65c_add_72be8 : MethodName := ⟨RJx4a65c, "add", "(Ljava/lang/Object;[Ljava/lang/Object;I)V"⟩
abbrev cJx4a65c_add_9ea2d : ByteArray := prog_26_method_25_code
def yJx4a65c_add_9ea2d : MethodName := ⟨RJx4a65c, "add", "(Ljava/lang/Object;)Z"⟩
abbrev cJx4a65c_remove_915e3 : ByteArray := prog_26_method_29_code
def yJx4a65c_remove_915e3 : MethodName := ⟨RJx4a65c, "remove", "(I)Ljava/lang/Object;"⟩
abbrev cJx4a65c_fastRemove_b59b0 : ByteArray := prog_26_method_39_code
def yJx4a65c_fastRemove_b59b0 : MethodName := ⟨RJx4a65c, "fastRemove", "([Ljava/lang/Object;I)V"⟩
abbrev cJx4a65c_clear_da8c8 : ByteArray := prog_26_method_40_code
def yJx4a65c_clear_da8c8 : MethodName := ⟨RJx4a65c, "clear", "()V"⟩
def RJ7 : String := "java/util/Arrays"
def TJ7 : u_T := fun k => match k with
  | _ => ("", "", "", false)
def tyJ7 : Nat → FieldType := fun k => match k with
  | _ => .int
abbrev wsJ70 : List Cond := u_ws RJ7 TJ7 0
theorem nmJ7 : ∀ a, a < 0 → ∀ b, b < 0 → a ≠ b → (TJ7 a).2.1 ≠ (TJ7 b).2.1 := by decide +kernel
theorem tyJ7_ok : ∀ k, k < 0 → parseFieldDescriptor (TJ7 k).2.2.1 = some (tyJ7 k) := by decide +kernel
abbrev cJ7_copyOf_1904c : ByteArray := prog_27_method_119_code
def yJ7_copyOf_1904c : MethodName := ⟨RJ7, "copyOf", "([Ljava/lang/Object;I)[Ljava/lang/Object;"⟩
abbrev cJ7_copyOf_6403c : ByteArray := prog_27_method_120_code
def yJ7_copyOf_6403c : MethodName := ⟨RJ7, "copyOf", "([Ljava/lang/Object;ILjava/lang/Class;)[Ljava/lang/Object;"⟩
def RJx5ef63 : String := "java/util/Collection"
def TJx5ef63 : u_T := fun k => match k with
  | _ => ("", "", "", false)
def tyJx5ef63 : Nat → FieldType := fun k => match k with
  | _ => .int
abbrev wsJx5ef630 : List Cond := u_ws RJx5ef63 TJx5ef63 0
theorem nmJx5ef63 : ∀ a, a < 0 → ∀ b, b < 0 → a ≠ b → (TJx5ef63 a).2.1 ≠ (TJx5ef63 b).2.1 := by decide +kernel
theorem tyJx5ef63_ok : ∀ k, k < 0 → parseFieldDescriptor (TJx5ef63 k).2.2.1 = some (tyJx5ef63 k) := by decide +kernel
def RJxbd725 : String := "java/util/List"
def TJxbd725 : u_T := fun k => match k with
  | _ => ("", "", "", false)
def tyJxbd725 : Nat → FieldType := fun k => match k with
  | _ => .int
abbrev wsJxbd7250 : List Cond := u_ws RJxbd725 TJxbd725 0
theorem nmJxbd725 : ∀ a, a < 0 → ∀ b, b < 0 → a ≠ b → (TJxbd725 a).2.1 ≠ (TJxbd725 b).2.1 := by decide +kernel
theorem tyJxbd725_ok : ∀ k, k < 0 → parseFieldDescriptor (TJxbd725 k).2.2.1 = some (tyJxbd725 k) := by decide +kernel
def RJ15 : String := "java/util/Objects"
def TJ15 : u_T := fun k => match k with
  | _ => ("", "", "", false)
def tyJ15 : Nat → FieldType := fun k => match k with
  | _ => .int
abbrev wsJ150 : List Cond := u_ws RJ15 TJ15 0
theorem nmJ15 : ∀ a, a < 0 → ∀ b, b < 0 → a ≠ b → (TJ15 a).2.1 ≠ (TJ15 b).2.1 := by decide +kernel
theorem tyJ15_ok : ∀ k, k < 0 → parseFieldDescriptor (TJ15 k).2.2.1 = some (tyJ15 k) := by decide +kernel
abbrev cJ15_checkIndex_7cf53 : ByteArray := prog_30_method_17_code
def yJ15_checkIndex_7cf53 : MethodName := ⟨RJ15, "checkIndex", "(II)I"⟩
def RJxf0a74 : String := "java/util/RandomAccess"
def TJxf0a74 : u_T := fun k => match k with
  | _ => ("", "", "", false)
def tyJxf0a74 : Nat → FieldType := fun k => match k with
  | _ => .int
abbrev wsJxf0a740 : List Cond := u_ws RJxf0a74 TJxf0a74 0
theorem nmJxf0a74 : ∀ a, a < 0 → ∀ b, b < 0 → a ≠ b → (TJxf0a74 a).2.1 ≠ (TJxf0a74 b).2.1 := by decide +kernel
theorem tyJxf0a74_ok : ∀ k, k < 0 → parseFieldDescriptor (TJxf0a74 k).2.2.1 = some (tyJxf0a74 k) := by decide +kernel
def RJxa66e6 : String := "java/util/SequencedCollection"
def TJxa66e6 : u_T := fun k => match k with
  | _ => ("", "", "", false)
def tyJxa66e6 : Nat → FieldType := fun k => match k with
  | _ => .int
abbrev wsJxa66e60 : List Cond := u_ws RJxa66e6 TJxa66e6 0
theorem nmJxa66e6 : ∀ a, a < 0 → ∀ b, b < 0 → a ≠ b → (TJxa66e6 a).2.1 ≠ (TJxa66e6 b).2.1 := by decide +kernel
theorem tyJxa66e6_ok : ∀ k, k < 0 → parseFieldDescriptor (TJxa66e6 k).2.2.1 = some (tyJxa66e6 k) := by decide +kernel
def RJ8 : String := "jdk/internal/util/ArraysSupport"
def TJ8 : u_T := fun k => match k with
  | _ => ("", "", "", false)
def tyJ8 : Nat → FieldType := fun k => match k with
  | _ => .int
abbrev wsJ80 : List Cond := u_ws RJ8 TJ8 0
theorem nmJ8 : ∀ a, a < 0 → ∀ b, b < 0 → a ≠ b → (TJ8 a).2.1 ≠ (TJ8 b).2.1 := by decide +kernel
theorem tyJ8_ok : ∀ k, k < 0 → parseFieldDescriptor (TJ8 k).2.2.1 = some (tyJ8 k) := by decide +kernel
abbrev cJ8_newLength_cabcc : ByteArray := prog_33_method_27_code
def yJ8_newLength_cabcc : MethodName := ⟨RJ8, "newLength", "(III)I"⟩
abbrev cJ8_hugeLength_7cf53 : ByteArray := prog_33_method_28_code
def yJ8_hugeLength_7cf53 : MethodName := ⟨RJ8, "hugeLength", "(II)I"⟩
def RJ3 : String := "jdk/internal/util/Preconditions"
def TJ3 : u_T := fun k => match k with
  | _ => ("", "", "", false)
def tyJ3 : Nat → FieldType := fun k => match k with
  | _ => .int
abbrev wsJ30 : List Cond := u_ws RJ3 TJ3 0
theorem nmJ3 : ∀ a, a < 0 → ∀ b, b < 0 → a ≠ b → (TJ3 a).2.1 ≠ (TJ3 b).2.1 := by decide +kernel
theorem tyJ3_ok : ∀ k, k < 0 → parseFieldDescriptor (TJ3 k).2.2.1 = some (tyJ3 k) := by decide +kernel
abbrev cJ3_checkIndex_8e157 : ByteArray := prog_34_method_11_code
def yJ3_checkIndex_8e157 : MethodName := ⟨RJ3, "checkIndex", "(IILjava/util/function/BiFunction;)I"⟩
def RL : String := "VaneHouseLaw"
abbrev cL_beginWind : ByteArray := method_3_code
def yL_beginWind : MethodName := ⟨RL, "beginWind", "(LVaneHouse;IIZ[J)I"⟩
abbrev cL_addWind : ByteArray := method_4_code
def yL_addWind : MethodName := ⟨RL, "addWind", "(LVaneHouse;IIZ[J)I"⟩
abbrev cL_wind : ByteArray := method_5_code
def yL_wind : MethodName := ⟨RL, "wind", "(LVaneHouse;II[J)I"⟩
abbrev cL_setUp : ByteArray := method_6_code
def yL_setUp : MethodName := ⟨RL, "setUp", "(LVaneHouse;IIIIII[J)I"⟩
abbrev cL_oil : ByteArray := method_7_code
def yL_oil : MethodName := ⟨RL, "oil", "(LVaneHouse;I[J)I"⟩
abbrev cL_turn : ByteArray := method_8_code
def yL_turn : MethodName := ⟨RL, "turn", "(LVaneHouse;II[J)I"⟩
abbrev cL_vane : ByteArray := method_9_code
def yL_vane : MethodName := ⟨RL, "vane", "(LVaneHouse;II[J)I"⟩
abbrev cL_difference : ByteArray := method_10_code
def yL_difference : MethodName := ⟨RL, "difference", "(LVaneHouse;II[J)I"⟩
abbrev cL_move : ByteArray := method_11_code
def yL_move : MethodName := ⟨RL, "move", "(LVaneHouse;IIII[J)I"⟩
abbrev cL_put : ByteArray := method_12_code
def yL_put : MethodName := ⟨RL, "put", "(LVaneHouse;II[J)I"⟩
abbrev cL_motion : ByteArray := method_13_code
def yL_motion : MethodName := ⟨RL, "motion", "(LVaneHouse;II[J)I"⟩
abbrev cL_stand : ByteArray := method_14_code
def yL_stand : MethodName := ⟨RL, "stand", "(LVaneHouse;II[J)I"⟩
abbrev cL_pass : ByteArray := method_15_code
def yL_pass : MethodName := ⟨RL, "pass", "(LVaneHouse;I[J)I"⟩
abbrev cL_count : ByteArray := method_16_code
def yL_count : MethodName := ⟨RL, "count", "(LVaneHouse;I[J)I"⟩
abbrev cL_party : ByteArray := method_17_code
def yL_party : MethodName := ⟨RL, "party", "(LVaneHouse;II[J)I"⟩
abbrev cL_foresee : ByteArray := method_18_code
def yL_foresee : MethodName := ⟨RL, "foresee", "(LVaneHouse;II[J)I"⟩
abbrev cL_passes : ByteArray := method_19_code
def yL_passes : MethodName := ⟨RL, "passes", "(LVaneHouse;II[J)I"⟩
abbrev cL_advise : ByteArray := method_20_code
def yL_advise : MethodName := ⟨RL, "advise", "(LVaneHouse;II[J)I"⟩
abbrev cL_law : ByteArray := code
def yL_law : MethodName := ⟨RL, "law", "([I)Z"⟩
abbrev vwCl : List vw_C := [(RJx4a65c, TJx4a65c, 3), (RX0, TX0, 2), (RX1, TX1, 5), (RX2, TX2, 7), (RX3, TX3, 1), (RX4, TX4, 7), (RX5, TX5, 3), (RX6, TX6, 8), (RX7, TX7, 12), (RX8, TX8, 3)]
end
section
theorem dX0_init_0 : decode cX0_init 0 = .ok (.aload_n 0, 1) := by decide +kernel
theorem dX0_init_1 : decode cX0_init 1 = .ok (.invokespecial 1, 3) := by decide +kernel
theorem dX0_init_4 : decode cX0_init 4 = .ok (.aload_n 0, 1) := by decide +kernel
theorem dX0_init_5 : decode cX0_init 5 = .ok (.aload_n 1, 1) := by decide +kernel
theorem dX0_init_6 : decode cX0_init 6 = .ok (.putfield 7, 3) := by decide +kernel
theorem dX0_init_9 : decode cX0_init 9 = .ok (.aload_n 0, 1) := by decide +kernel
theorem dX0_init_10 : decode cX0_init 10 = .ok (.iload_n 2, 1) := by decide +kernel
theorem dX0_init_11 : decode cX0_init 11 = .ok (.putfield 13, 3) := by decide +kernel
theorem dX0_init_14 : decode cX0_init 14 = .ok (.return_, 1) := by decide +kernel
theorem dX1_init_0 : decode cX1_init 0 = .ok (.aload_n 0, 1) := by decide +kernel
theorem dX1_init_1 : decode cX1_init 1 = .ok (.invokespecial 1, 3) := by decide +kernel
theorem dX1_init_4 : decode cX1_init 4 = .ok (.aload_n 0, 1) := by decide +kernel
theorem dX1_init_5 : decode cX1_init 5 = .ok (.bipush 8, 2) := by decide +kernel
theorem dX1_init_7 : decode cX1_init 7 = .ok (.newarray .int, 2) := by decide +kernel
theorem dX1_init_9 : decode cX1_init 9 = .ok (.putfield 7, 3) := by decide +kernel
theorem dX1_init_12 : decode cX1_init 12 = .ok (.aload_n 0, 1) := by decide +kernel
theorem dX1_init_13 : decode cX1_init 13 = .ok (.iload_n 1, 1) := by decide +kernel
theorem dX1_init_14 : decode cX1_init 14 = .ok (.putfield 13, 3) := by decide +kernel
theorem dX1_init_17 : decode cX1_init 17 = .ok (.aload_n 0, 1) := by decide +kernel
theorem dX1_init_18 : decode cX1_init 18 = .ok (.iload_n 2, 1) := by decide +kernel
theorem dX1_init_19 : decode cX1_init 19 = .ok (.putfield 17, 3) := by decide +kernel
theorem dX1_init_22 : decode cX1_init 22 = .ok (.aload_n 0, 1) := by decide +kernel
theorem dX1_init_23 : decode cX1_init 23 = .ok (.iload_n 3, 1) := by decide +kernel
theorem dX1_init_24 : decode cX1_init 24 = .ok (.putfield 20, 3) := by decide +kernel
theorem dX1_init_27 : decode cX1_init 27 = .ok (.aload_n 0, 1) := by decide +kernel
theorem dX1_init_28 : decode cX1_init 28 = .ok (.iload 4, 2) := by decide +kernel
theorem dX1_init_30 : decode cX1_init 30 = .ok (.putfield 23, 3) := by decide +kernel
theorem dX1_init_33 : decode cX1_init 33 = .ok (.return_, 1) := by decide +kernel
theorem dX1_lookAt_0 : decode cX1_lookAt 0 = .ok (.aload_n 1, 1) := by decide +kernel
theorem dX1_lookAt_1 : decode cX1_lookAt 1 = .ok (.getfield 20, 3) := by decide +kernel
theorem dX1_lookAt_4 : decode cX1_lookAt 4 = .ok (.aload_n 0, 1) := by decide +kernel
theorem dX1_lookAt_5 : decode cX1_lookAt 5 = .ok (.getfield 20, 3) := by decide +kernel
theorem dX1_lookAt_8 : decode cX1_lookAt 8 = .ok (.if_icmp .gt 4, 3) := by decide +kernel
theorem dX1_lookAt_11 : decode cX1_lookAt 11 = .ok (.return_, 1) := by decide +kernel
theorem dX1_lookAt_12 : decode cX1_lookAt 12 = .ok (.iconst 0, 1) := by decide +kernel
theorem dX1_lookAt_13 : decode cX1_lookAt 13 = .ok (.istore_n 2, 1) := by decide +kernel
theorem dX1_lookAt_14 : decode cX1_lookAt 14 = .ok (.iload_n 2, 1) := by decide +kernel
theorem dX1_lookAt_15 : decode cX1_lookAt 15 = .ok (.aload_n 0, 1) := by decide +kernel
theorem dX1_lookAt_16 : decode cX1_lookAt 16 = .ok (.getfield 7, 3) := by decide +kernel
theorem dX1_lookAt_19 : decode cX1_lookAt 19 = .ok (.arraylength, 1) := by decide +kernel
theorem dX1_lookAt_20 : decode cX1_lookAt 20 = .ok (.if_icmp .ge 28, 3) := by decide +kernel
theorem dX1_lookAt_23 : decode cX1_lookAt 23 = .ok (.aload_n 0, 1) := by decide +kernel
theorem dX1_lookAt_24 : decode cX1_lookAt 24 = .ok (.aload_n 1, 1) := by decide +kernel
theorem dX1_lookAt_25 : decode cX1_lookAt 25 = .ok (.iload_n 2, 1) := by decide +kernel
theorem dX1_lookAt_26 : decode cX1_lookAt 26 = .ok (.invokevirtual 26, 3) := by decide +kernel
theorem dX1_lookAt_29 : decode cX1_lookAt 29 = .ok (.ifCond .eq 13, 3) := by decide +kernel
theorem dX1_lookAt_32 : decode cX1_lookAt 32 = .ok (.aload_n 0, 1) := by decide +kernel
theorem dX1_lookAt_33 : decode cX1_lookAt 33 = .ok (.getfield 7, 3) := by decide +kernel
theorem dX1_lookAt_36 : decode cX1_lookAt 36 = .ok (.iload_n 2, 1) := by decide +kernel
theorem dX1_lookAt_37 : decode cX1_lookAt 37 = .ok (.dup2, 1) := by decide +kernel
theorem dX1_lookAt_38 : decode cX1_lookAt 38 = .ok (.iaload, 1) := by decide +kernel
theorem dX1_lookAt_39 : decode cX1_lookAt 39 = .ok (.iconst 1, 1) := by decide +kernel
theorem dX1_lookAt_40 : decode cX1_lookAt 40 = .ok (.iadd, 1) := by decide +kernel
theorem dX1_lookAt_41 : decode cX1_lookAt 41 = .ok (.iastore, 1) := by decide +kernel
theorem dX1_lookAt_42 : decode cX1_lookAt 42 = .ok (.iinc 2 1, 3) := by decide +kernel
theorem dX1_lookAt_45 : decode cX1_lookAt 45 = .ok (.goto (-31), 3) := by decide +kernel
theorem dX1_lookAt_48 : decode cX1_lookAt 48 = .ok (.return_, 1) := by decide +kernel
theorem dX1_isInLine_0 : decode cX1_isInLine 0 = .ok (.iload_n 2, 1) := by decide +kernel
theorem dX1_isInLine_1 : decode cX1_isInLine 1 = .ok (.ifCond .lt 19, 3) := by decide +kernel
theorem dX1_isInLine_4 : decode cX1_isInLine 4 = .ok (.iload_n 2, 1) := by decide +kernel
theorem dX1_isInLine_5 : decode cX1_isInLine 5 = .ok (.getstatic 30, 3) := by decide +kernel
theorem dX1_isInLine_8 : decode cX1_isInLine 8 = .ok (.arraylength, 1) := by decide +kernel
theorem dX1_isInLine_9 : decode cX1_isInLine 9 = .ok (.if_icmp .ge 11, 3) := by decide +kernel
theorem dX1_isInLine_12 : decode cX1_isInLine 12 = .ok (.iload_n 2, 1) := by decide +kernel
theorem dX1_isInLine_13 : decode cX1_isInLine 13 = .ok (.getstatic 33, 3) := by decide +kernel
theorem dX1_isInLine_16 : decode cX1_isInLine 16 = .ok (.arraylength, 1) := by decide +kernel
theorem dX1_isInLine_17 : decode cX1_isInLine 17 = .ok (.if_icmp .lt 5, 3) := by decide +kernel
theorem dX1_isInLine_20 : decode cX1_isInLine 20 = .ok (.iconst 0, 1) := by decide +kernel
theorem dX1_isInLine_21 : decode cX1_isInLine 21 = .ok (.ireturn, 1) := by decide +kernel
theorem dX1_isInLine_22 : decode cX1_isInLine 22 = .ok (.iconst 1, 1) := by decide +kernel
theorem dX1_isInLine_23 : decode cX1_isInLine 23 = .ok (.istore_n 3, 1) := by decide +kernel
theorem dX1_isInLine_24 : decode cX1_isInLine 24 = .ok (.iload_n 3, 1) := by decide +kernel
theorem dX1_isInLine_25 : decode cX1_isInLine 25 = .ok (.iconst 3, 1) := by decide +kernel
theorem dX1_isInLine_26 : decode cX1_isInLine 26 = .ok (.if_icmp .gt 49, 3) := by decide +kernel
theorem dX1_isInLine_29 : decode cX1_isInLine 29 = .ok (.aload_n 1, 1) := by decide +kernel
theorem dX1_isInLine_30 : decode cX1_isInLine 30 = .ok (.getfield 13, 3) := by decide +kernel
theorem dX1_isInLine_33 : decode cX1_isInLine 33 = .ok (.aload_n 0, 1) := by decide +kernel
theorem dX1_isInLine_34 : decode cX1_isInLine 34 = .ok (.getfield 13, 3) := by decide +kernel
theorem dX1_isInLine_37 : decode cX1_isInLine 37 = .ok (.iload_n 3, 1) := by decide +kernel
theorem dX1_isInLine_38 : decode cX1_isInLine 38 = .ok (.getstatic 30, 3) := by decide +kernel
theorem dX1_isInLine_41 : decode cX1_isInLine 41 = .ok (.iload_n 2, 1) := by decide +kernel
theorem dX1_isInLine_42 : decode cX1_isInLine 42 = .ok (.iaload, 1) := by decide +kernel
theorem dX1_isInLine_43 : decode cX1_isInLine 43 = .ok (.imul, 1) := by decide +kernel
theorem dX1_isInLine_44 : decode cX1_isInLine 44 = .ok (.iadd, 1) := by decide +kernel
theorem dX1_isInLine_45 : decode cX1_isInLine 45 = .ok (.if_icmp .ne 24, 3) := by decide +kernel
theorem dX1_isInLine_48 : decode cX1_isInLine 48 = .ok (.aload_n 1, 1) := by decide +kernel
theorem dX1_isInLine_49 : decode cX1_isInLine 49 = .ok (.getfield 17, 3) := by decide +kernel
theorem dX1_isInLine_52 : decode cX1_isInLine 52 = .ok (.aload_n 0, 1) := by decide +kernel
theorem dX1_isInLine_53 : decode cX1_isInLine 53 = .ok (.getfield 17, 3) := by decide +kernel
theorem dX1_isInLine_56 : decode cX1_isInLine 56 = .ok (.iload_n 3, 1) := by decide +kernel
theorem dX1_isInLine_57 : decode cX1_isInLine 57 = .ok (.getstatic 33, 3) := by decide +kernel
theorem dX1_isInLine_60 : decode cX1_isInLine 60 = .ok (.iload_n 2, 1) := by decide +kernel
theorem dX1_isInLine_61 : decode cX1_isInLine 61 = .ok (.iaload, 1) := by decide +kernel
theorem dX1_isInLine_62 : decode cX1_isInLine 62 = .ok (.imul, 1) := by decide +kernel
theorem dX1_isInLine_63 : decode cX1_isInLine 63 = .ok (.iadd, 1) := by decide +kernel
theorem dX1_isInLine_64 : decode cX1_isInLine 64 = .ok (.if_icmp .ne 5, 3) := by decide +kernel
theorem dX1_isInLine_67 : decode cX1_isInLine 67 = .ok (.iconst 1, 1) := by decide +kernel
theorem dX1_isInLine_68 : decode cX1_isInLine 68 = .ok (.ireturn, 1) := by decide +kernel
theorem dX1_isInLine_69 : decode cX1_isInLine 69 = .ok (.iinc 3 1, 3) := by decide +kernel
theorem dX1_isInLine_72 : decode cX1_isInLine 72 = .ok (.goto (-48), 3) := by decide +kernel
theorem dX1_isInLine_75 : decode cX1_isInLine 75 = .ok (.iconst 0, 1) := by decide +kernel
theorem dX1_isInLine_76 : decode cX1_isInLine 76 = .ok (.ireturn, 1) := by decide +kernel
theorem dX1_leeOf_0 : decode cX1_leeOf 0 = .ok (.aload_n 1, 1) := by decide +kernel
theorem dX1_leeOf_1 : decode cX1_leeOf 1 = .ok (.invokevirtual 36, 3) := by decide +kernel
theorem dX1_leeOf_4 : decode cX1_leeOf 4 = .ok (.istore_n 2, 1) := by decide +kernel
theorem dX1_leeOf_5 : decode cX1_leeOf 5 = .ok (.iload_n 2, 1) := by decide +kernel
theorem dX1_leeOf_6 : decode cX1_leeOf 6 = .ok (.ifCond .lt 21, 3) := by decide +kernel
theorem dX1_leeOf_9 : decode cX1_leeOf 9 = .ok (.iload_n 2, 1) := by decide +kernel
theorem dX1_leeOf_10 : decode cX1_leeOf 10 = .ok (.aload_n 0, 1) := by decide +kernel
theorem dX1_leeOf_11 : decode cX1_leeOf 11 = .ok (.getfield 7, 3) := by decide +kernel
theorem dX1_leeOf_14 : decode cX1_leeOf 14 = .ok (.arraylength, 1) := by decide +kernel
theorem dX1_leeOf_15 : decode cX1_leeOf 15 = .ok (.if_icmp .ge 12, 3) := by decide +kernel
theorem dX1_leeOf_18 : decode cX1_leeOf 18 = .ok (.aload_n 0, 1) := by decide +kernel
theorem dX1_leeOf_19 : decode cX1_leeOf 19 = .ok (.getfield 7, 3) := by decide +kernel
theorem dX1_leeOf_22 : decode cX1_leeOf 22 = .ok (.iload_n 2, 1) := by decide +kernel
theorem dX1_leeOf_23 : decode cX1_leeOf 23 = .ok (.iaload, 1) := by decide +kernel
theorem dX1_leeOf_24 : decode cX1_leeOf 24 = .ok (.goto 4, 3) := by decide +kernel
theorem dX1_leeOf_27 : decode cX1_leeOf 27 = .ok (.iconst 0, 1) := by decide +kernel
theorem dX1_leeOf_28 : decode cX1_leeOf 28 = .ok (.ireturn, 1) := by decide +kernel
theorem dX2_init_0 : decode cX2_init 0 = .ok (.aload_n 0, 1) := by decide +kernel
theorem dX2_init_1 : decode cX2_init 1 = .ok (.invokespecial 3, 3) := by decide +kernel
theorem dX2_init_4 : decode cX2_init 4 = .ok (.aload_n 0, 1) := by decide +kernel
theorem dX2_init_5 : decode cX2_init 5 = .ok (.iload_n 1, 1) := by decide +kernel
theorem dX2_init_6 : decode cX2_init 6 = .ok (.putfield 9, 3) := by decide +kernel
theorem dX2_init_9 : decode cX2_init 9 = .ok (.aload_n 0, 1) := by decide +kernel
theorem dX2_init_10 : decode cX2_init 10 = .ok (.iload_n 2, 1) := by decide +kernel
theorem dX2_init_11 : decode cX2_init 11 = .ok (.putfield 15, 3) := by decide +kernel
theorem dX2_init_14 : decode cX2_init 14 = .ok (.aload_n 0, 1) := by decide +kernel
theorem dX2_init_15 : decode cX2_init 15 = .ok (.iload_n 3, 1) := by decide +kernel
theorem dX2_init_16 : decode cX2_init 16 = .ok (.putfield 18, 3) := by decide +kernel
theorem dX2_init_19 : decode cX2_init 19 = .ok (.aload_n 0, 1) := by decide +kernel
theorem dX2_init_20 : decode cX2_init 20 = .ok (.iload 4, 2) := by decide +kernel
theorem dX2_init_22 : decode cX2_init 22 = .ok (.putfield 21, 3) := by decide +kernel
theorem dX2_init_25 : decode cX2_init 25 = .ok (.aload_n 0, 1) := by decide +kernel
theorem dX2_init_26 : decode cX2_init 26 = .ok (.iload 5, 2) := by decide +kernel
theorem dX2_init_28 : decode cX2_init 28 = .ok (.putfield 24, 3) := by decide +kernel
theorem dX2_init_31 : decode cX2_init 31 = .ok (.return_, 1) := by decide +kernel
theorem dX2_tell_0 : decode cX2_tell 0 = .ok (.iload_n 1, 1) := by decide +kernel
theorem dX2_tell_1 : decode cX2_tell 1 = .ok (.tableswitch 100 0 7 #[47, 52, 57, 62, 67, 74, 81, 95], 47) := by decide +kernel
theorem dX2_tell_48 : decode cX2_tell 48 = .ok (.aload_n 0, 1) := by decide +kernel
theorem dX2_tell_49 : decode cX2_tell 49 = .ok (.getfield 15, 3) := by decide +kernel
theorem dX2_tell_52 : decode cX2_tell 52 = .ok (.ireturn, 1) := by decide +kernel
theorem dX2_tell_53 : decode cX2_tell 53 = .ok (.aload_n 0, 1) := by decide +kernel
theorem dX2_tell_54 : decode cX2_tell 54 = .ok (.getfield 18, 3) := by decide +kernel
theorem dX2_tell_57 : decode cX2_tell 57 = .ok (.ireturn, 1) := by decide +kernel
theorem dX2_tell_58 : decode cX2_tell 58 = .ok (.aload_n 0, 1) := by decide +kernel
theorem dX2_tell_59 : decode cX2_tell 59 = .ok (.getfield 21, 3) := by decide +kernel
theorem dX2_tell_62 : decode cX2_tell 62 = .ok (.ireturn, 1) := by decide +kernel
theorem dX2_tell_63 : decode cX2_tell 63 = .ok (.aload_n 0, 1) := by decide +kernel
theorem dX2_tell_64 : decode cX2_tell 64 = .ok (.getfield 24, 3) := by decide +kernel
theorem dX2_tell_67 : decode cX2_tell 67 = .ok (.ireturn, 1) := by decide +kernel
theorem dX2_tell_68 : decode cX2_tell 68 = .ok (.aload_n 2, 1) := by decide +kernel
theorem dX2_tell_69 : decode cX2_tell 69 = .ok (.aload_n 0, 1) := by decide +kernel
theorem dX2_tell_70 : decode cX2_tell 70 = .ok (.iconst 1, 1) := by decide +kernel
theorem dX2_tell_71 : decode cX2_tell 71 = .ok (.invokevirtual 27, 3) := by decide +kernel
theorem dX2_tell_74 : decode cX2_tell 74 = .ok (.ireturn, 1) := by decide +kernel
theorem dX2_tell_75 : decode cX2_tell 75 = .ok (.aload_n 2, 1) := by decide +kernel
theorem dX2_tell_76 : decode cX2_tell 76 = .ok (.aload_n 0, 1) := by decide +kernel
theorem dX2_tell_77 : decode cX2_tell 77 = .ok (.iconst (-1), 1) := by decide +kernel
theorem dX2_tell_78 : decode cX2_tell 78 = .ok (.invokevirtual 27, 3) := by decide +kernel
theorem dX2_tell_81 : decode cX2_tell 81 = .ok (.ireturn, 1) := by decide +kernel
theorem dX2_tell_82 : decode cX2_tell 82 = .ok (.aload_n 2, 1) := by decide +kernel
theorem dX2_tell_83 : decode cX2_tell 83 = .ok (.aload_n 0, 1) := by decide +kernel
theorem dX2_tell_84 : decode cX2_tell 84 = .ok (.invokevirtual 33, 3) := by decide +kernel
theorem dX2_tell_87 : decode cX2_tell 87 = .ok (.ifCond .eq 7, 3) := by decide +kernel
theorem dX2_tell_90 : decode cX2_tell 90 = .ok (.iconst 1, 1) := by decide +kernel
theorem dX2_tell_91 : decode cX2_tell 91 = .ok (.goto 4, 3) := by decide +kernel
theorem dX2_tell_94 : decode cX2_tell 94 = .ok (.iconst 0, 1) := by decide +kernel
theorem dX2_tell_95 : decode cX2_tell 95 = .ok (.ireturn, 1) := by decide +kernel
theorem dX2_tell_96 : decode cX2_tell 96 = .ok (.aload_n 0, 1) := by decide +kernel
theorem dX2_tell_97 : decode cX2_tell 97 = .ok (.getfield 37, 3) := by decide +kernel
theorem dX2_tell_100 : decode cX2_tell 100 = .ok (.ireturn, 1) := by decide +kernel
theorem dX2_tell_101 : decode cX2_tell 101 = .ok (.aload_n 0, 1) := by decide +kernel
theorem dX2_tell_102 : decode cX2_tell 102 = .ok (.getfield 40, 3) := by decide +kernel
theorem dX2_tell_105 : decode cX2_tell 105 = .ok (.ireturn, 1) := by decide +kernel
theorem dX2_sideOf_0 : decode cX2_sideOf 0 = .ok (.aload_n 1, 1) := by decide +kernel
theorem dX2_sideOf_1 : decode cX2_sideOf 1 = .ok (.getfield 43, 3) := by decide +kernel
theorem dX2_sideOf_4 : decode cX2_sideOf 4 = .ok (.aload_n 0, 1) := by decide +kernel
theorem dX2_sideOf_5 : decode cX2_sideOf 5 = .ok (.getfield 15, 3) := by decide +kernel
theorem dX2_sideOf_8 : decode cX2_sideOf 8 = .ok (.invokestatic 46, 3) := by decide +kernel
theorem dX2_sideOf_11 : decode cX2_sideOf 11 = .ok (.istore_n 2, 1) := by decide +kernel
theorem dX2_sideOf_12 : decode cX2_sideOf 12 = .ok (.iload_n 2, 1) := by decide +kernel
theorem dX2_sideOf_13 : decode cX2_sideOf 13 = .ok (.aload_n 0, 1) := by decide +kernel
theorem dX2_sideOf_14 : decode cX2_sideOf 14 = .ok (.getfield 18, 3) := by decide +kernel
theorem dX2_sideOf_17 : decode cX2_sideOf 17 = .ok (.if_icmp .gt 5, 3) := by decide +kernel
theorem dX2_sideOf_20 : decode cX2_sideOf 20 = .ok (.iconst 1, 1) := by decide +kernel
theorem dX2_sideOf_21 : decode cX2_sideOf 21 = .ok (.ireturn, 1) := by decide +kernel
theorem dX2_sideOf_22 : decode cX2_sideOf 22 = .ok (.iload_n 2, 1) := by decide +kernel
theorem dX2_sideOf_23 : decode cX2_sideOf 23 = .ok (.bipush 8, 2) := by decide +kernel
theorem dX2_sideOf_25 : decode cX2_sideOf 25 = .ok (.aload_n 0, 1) := by decide +kernel
theorem dX2_sideOf_26 : decode cX2_sideOf 26 = .ok (.getfield 18, 3) := by decide +kernel
theorem dX2_sideOf_29 : decode cX2_sideOf 29 = .ok (.iconst 2, 1) := by decide +kernel
theorem dX2_sideOf_30 : decode cX2_sideOf 30 = .ok (.idiv, 1) := by decide +kernel
theorem dX2_sideOf_31 : decode cX2_sideOf 31 = .ok (.isub, 1) := by decide +kernel
theorem dX2_sideOf_32 : decode cX2_sideOf 32 = .ok (.if_icmp .lt 7, 3) := by decide +kernel
theorem dX2_sideOf_35 : decode cX2_sideOf 35 = .ok (.iconst (-1), 1) := by decide +kernel
theorem dX2_sideOf_36 : decode cX2_sideOf 36 = .ok (.goto 4, 3) := by decide +kernel
theorem dX2_sideOf_39 : decode cX2_sideOf 39 = .ok (.iconst 0, 1) := by decide +kernel
theorem dX2_sideOf_40 : decode cX2_sideOf 40 = .ok (.ireturn, 1) := by decide +kernel
theorem dX2_noteVoting_0 : decode cX2_noteVoting 0 = .ok (.aload_n 0, 1) := by decide +kernel
theorem dX2_noteVoting_1 : decode cX2_noteVoting 1 = .ok (.dup, 1) := by decide +kernel
theorem dX2_noteVoting_2 : decode cX2_noteVoting 2 = .ok (.getfield 37, 3) := by decide +kernel
theorem dX2_noteVoting_5 : decode cX2_noteVoting 5 = .ok (.iconst 1, 1) := by decide +kernel
theorem dX2_noteVoting_6 : decode cX2_noteVoting 6 = .ok (.iadd, 1) := by decide +kernel
theorem dX2_noteVoting_7 : decode cX2_noteVoting 7 = .ok (.putfield 37, 3) := by decide +kernel
theorem dX2_noteVoting_10 : decode cX2_noteVoting 10 = .ok (.iload_n 1, 1) := by decide +kernel
theorem dX2_noteVoting_11 : decode cX2_noteVoting 11 = .ok (.ifCond .eq 13, 3) := by decide +kernel
theorem dX2_noteVoting_14 : decode cX2_noteVoting 14 = .ok (.aload_n 0, 1) := by decide +kernel
theorem dX2_noteVoting_15 : decode cX2_noteVoting 15 = .ok (.dup, 1) := by decide +kernel
theorem dX2_noteVoting_16 : decode cX2_noteVoting 16 = .ok (.getfield 40, 3) := by decide +kernel
theorem dX2_noteVoting_19 : decode cX2_noteVoting 19 = .ok (.iconst 1, 1) := by decide +kernel
theorem dX2_noteVoting_20 : decode cX2_noteVoting 20 = .ok (.iadd, 1) := by decide +kernel
theorem dX2_noteVoting_21 : decode cX2_noteVoting 21 = .ok (.putfield 40, 3) := by decide +kernel
theorem dX2_noteVoting_24 : decode cX2_noteVoting 24 = .ok (.return_, 1) := by decide +kernel
theorem dX3_init_0 : decode cX3_init 0 = .ok (.aload_n 0, 1) := by decide +kernel
theorem dX3_init_1 : decode cX3_init 1 = .ok (.invokespecial 3, 3) := by decide +kernel
theorem dX3_init_4 : decode cX3_init 4 = .ok (.aload_n 0, 1) := by decide +kernel
theorem dX3_init_5 : decode cX3_init 5 = .ok (.new 9, 3) := by decide +kernel
theorem dX3_init_8 : decode cX3_init 8 = .ok (.dup, 1) := by decide +kernel
theorem dX3_init_9 : decode cX3_init 9 = .ok (.invokespecial 11, 3) := by decide +kernel
theorem dX3_init_12 : decode cX3_init 12 = .ok (.putfield 12, 3) := by decide +kernel
theorem dX3_init_15 : decode cX3_init 15 = .ok (.return_, 1) := by decide +kernel
theorem dX3_copyAllFrom_0 : decode cX3_copyAllFrom 0 = .ok (.iconst 0, 1) := by decide +kernel
theorem dX3_copyAllFrom_1 : decode cX3_copyAllFrom 1 = .ok (.istore_n 2, 1) := by decide +kernel
theorem dX3_copyAllFrom_2 : decode cX3_copyAllFrom 2 = .ok (.iload_n 2, 1) := by decide +kernel
theorem dX3_copyAllFrom_3 : decode cX3_copyAllFrom 3 = .ok (.aload_n 0, 1) := by decide +kernel
theorem dX3_copyAllFrom_4 : decode cX3_copyAllFrom 4 = .ok (.getfield 12, 3) := by decide +kernel
theorem dX3_copyAllFrom_7 : decode cX3_copyAllFrom 7 = .ok (.invokevirtual 18, 3) := by decide +kernel
theorem dX3_copyAllFrom_10 : decode cX3_copyAllFrom 10 = .ok (.if_icmp .ge 45, 3) := by decide +kernel
theorem dX3_copyAllFrom_13 : decode cX3_copyAllFrom 13 = .ok (.iload_n 2, 1) := by decide +kernel
theorem dX3_copyAllFrom_14 : decode cX3_copyAllFrom 14 = .ok (.aload_n 1, 1) := by decide +kernel
theorem dX3_copyAllFrom_15 : decode cX3_copyAllFrom 15 = .ok (.getfield 12, 3) := by decide +kernel
theorem dX3_copyAllFrom_18 : decode cX3_copyAllFrom 18 = .ok (.invokevirtual 18, 3) := by decide +kernel
theorem dX3_copyAllFrom_21 : decode cX3_copyAllFrom 21 = .ok (.if_icmp .ge 34, 3) := by decide +kernel
theorem dX3_copyAllFrom_24 : decode cX3_copyAllFrom 24 = .ok (.aload_n 0, 1) := by decide +kernel
theorem dX3_copyAllFrom_25 : decode cX3_copyAllFrom 25 = .ok (.getfield 12, 3) := by decide +kernel
theorem dX3_copyAllFrom_28 : decode cX3_copyAllFrom 28 = .ok (.iload_n 2, 1) := by decide +kernel
theorem dX3_copyAllFrom_29 : decode cX3_copyAllFrom 29 = .ok (.invokevirtual 22, 3) := by decide +kernel
theorem dX3_copyAllFrom_32 : decode cX3_copyAllFrom 32 = .ok (.checkcast 26, 3) := by decide +kernel
theorem dX3_copyAllFrom_35 : decode cX3_copyAllFrom 35 = .ok (.aload_n 1, 1) := by decide +kernel
theorem dX3_copyAllFrom_36 : decode cX3_copyAllFrom 36 = .ok (.getfield 12, 3) := by decide +kernel
theorem dX3_copyAllFrom_39 : decode cX3_copyAllFrom 39 = .ok (.iload_n 2, 1) := by decide +kernel
theorem dX3_copyAllFrom_40 : decode cX3_copyAllFrom 40 = .ok (.invokevirtual 22, 3) := by decide +kernel
theorem dX3_copyAllFrom_43 : decode cX3_copyAllFrom 43 = .ok (.checkcast 26, 3) := by decide +kernel
theorem dX3_copyAllFrom_46 : decode cX3_copyAllFrom 46 = .ok (.invokevirtual 28, 3) := by decide +kernel
theorem dX3_copyAllFrom_49 : decode cX3_copyAllFrom 49 = .ok (.iinc 2 1, 3) := by decide +kernel
theorem dX3_copyAllFrom_52 : decode cX3_copyAllFrom 52 = .ok (.goto (-50), 3) := by decide +kernel
theorem dX3_copyAllFrom_55 : decode cX3_copyAllFrom 55 = .ok (.return_, 1) := by decide +kernel
theorem dX3_hasOneAt_0 : decode cX3_hasOneAt 0 = .ok (.iconst 0, 1) := by decide +kernel
theorem dX3_hasOneAt_1 : decode cX3_hasOneAt 1 = .ok (.istore_n 3, 1) := by decide +kernel
theorem dX3_hasOneAt_2 : decode cX3_hasOneAt 2 = .ok (.iload_n 3, 1) := by decide +kernel
theorem dX3_hasOneAt_3 : decode cX3_hasOneAt 3 = .ok (.aload_n 0, 1) := by decide +kernel
theorem dX3_hasOneAt_4 : decode cX3_hasOneAt 4 = .ok (.getfield 12, 3) := by decide +kernel
theorem dX3_hasOneAt_7 : decode cX3_hasOneAt 7 = .ok (.invokevirtual 18, 3) := by decide +kernel
theorem dX3_hasOneAt_10 : decode cX3_hasOneAt 10 = .ok (.if_icmp .ge 45, 3) := by decide +kernel
theorem dX3_hasOneAt_13 : decode cX3_hasOneAt 13 = .ok (.aload_n 0, 1) := by decide +kernel
theorem dX3_hasOneAt_14 : decode cX3_hasOneAt 14 = .ok (.getfield 12, 3) := by decide +kernel
theorem dX3_hasOneAt_17 : decode cX3_hasOneAt 17 = .ok (.iload_n 3, 1) := by decide +kernel
theorem dX3_hasOneAt_18 : decode cX3_hasOneAt 18 = .ok (.invokevirtual 22, 3) := by decide +kernel
theorem dX3_hasOneAt_21 : decode cX3_hasOneAt 21 = .ok (.checkcast 26, 3) := by decide +kernel
theorem dX3_hasOneAt_24 : decode cX3_hasOneAt 24 = .ok (.getfield 32, 3) := by decide +kernel
theorem dX3_hasOneAt_27 : decode cX3_hasOneAt 27 = .ok (.astore 4, 2) := by decide +kernel
theorem dX3_hasOneAt_29 : decode cX3_hasOneAt 29 = .ok (.aload 4, 2) := by decide +kernel
theorem dX3_hasOneAt_31 : decode cX3_hasOneAt 31 = .ok (.getfield 36, 3) := by decide +kernel
theorem dX3_hasOneAt_34 : decode cX3_hasOneAt 34 = .ok (.iload_n 1, 1) := by decide +kernel
theorem dX3_hasOneAt_35 : decode cX3_hasOneAt 35 = .ok (.if_icmp .ne 14, 3) := by decide +kernel
theorem dX3_hasOneAt_38 : decode cX3_hasOneAt 38 = .ok (.aload 4, 2) := by decide +kernel
theorem dX3_hasOneAt_40 : decode cX3_hasOneAt 40 = .ok (.getfield 42, 3) := by decide +kernel
theorem dX3_hasOneAt_43 : decode cX3_hasOneAt 43 = .ok (.iload_n 2, 1) := by decide +kernel
theorem dX3_hasOneAt_44 : decode cX3_hasOneAt 44 = .ok (.if_icmp .ne 5, 3) := by decide +kernel
theorem dX3_hasOneAt_47 : decode cX3_hasOneAt 47 = .ok (.iconst 1, 1) := by decide +kernel
theorem dX3_hasOneAt_48 : decode cX3_hasOneAt 48 = .ok (.ireturn, 1) := by decide +kernel
theorem dX3_hasOneAt_49 : decode cX3_hasOneAt 49 = .ok (.iinc 3 1, 3) := by decide +kernel
theorem dX3_hasOneAt_52 : decode cX3_hasOneAt 52 = .ok (.goto (-50), 3) := by decide +kernel
theorem dX3_hasOneAt_55 : decode cX3_hasOneAt 55 = .ok (.iconst 0, 1) := by decide +kernel
theorem dX3_hasOneAt_56 : decode cX3_hasOneAt 56 = .ok (.ireturn, 1) := by decide +kernel
theorem dX3_shelter_0 : decode cX3_shelter 0 = .ok (.iconst 0, 1) := by decide +kernel
theorem dX3_shelter_1 : decode cX3_shelter 1 = .ok (.istore_n 2, 1) := by decide +kernel
theorem dX3_shelter_2 : decode cX3_shelter 2 = .ok (.iload_n 2, 1) := by decide +kernel
theorem dX3_shelter_3 : decode cX3_shelter 3 = .ok (.aload_n 0, 1) := by decide +kernel
theorem dX3_shelter_4 : decode cX3_shelter 4 = .ok (.getfield 12, 3) := by decide +kernel
theorem dX3_shelter_7 : decode cX3_shelter 7 = .ok (.invokevirtual 18, 3) := by decide +kernel
theorem dX3_shelter_10 : decode cX3_shelter 10 = .ok (.if_icmp .ge 45, 3) := by decide +kernel
theorem dX3_shelter_13 : decode cX3_shelter 13 = .ok (.aload_n 1, 1) := by decide +kernel
theorem dX3_shelter_14 : decode cX3_shelter 14 = .ok (.aload_n 0, 1) := by decide +kernel
theorem dX3_shelter_15 : decode cX3_shelter 15 = .ok (.getfield 12, 3) := by decide +kernel
theorem dX3_shelter_18 : decode cX3_shelter 18 = .ok (.iload_n 2, 1) := by decide +kernel
theorem dX3_shelter_19 : decode cX3_shelter 19 = .ok (.invokevirtual 22, 3) := by decide +kernel
theorem dX3_shelter_22 : decode cX3_shelter 22 = .ok (.checkcast 26, 3) := by decide +kernel
theorem dX3_shelter_25 : decode cX3_shelter 25 = .ok (.getfield 32, 3) := by decide +kernel
theorem dX3_shelter_28 : decode cX3_shelter 28 = .ok (.invokevirtual 45, 3) := by decide +kernel
theorem dX3_shelter_31 : decode cX3_shelter 31 = .ok (.aload_n 0, 1) := by decide +kernel
theorem dX3_shelter_32 : decode cX3_shelter 32 = .ok (.getfield 12, 3) := by decide +kernel
theorem dX3_shelter_35 : decode cX3_shelter 35 = .ok (.iload_n 2, 1) := by decide +kernel
theorem dX3_shelter_36 : decode cX3_shelter 36 = .ok (.invokevirtual 22, 3) := by decide +kernel
theorem dX3_shelter_39 : decode cX3_shelter 39 = .ok (.checkcast 26, 3) := by decide +kernel
theorem dX3_shelter_42 : decode cX3_shelter 42 = .ok (.getfield 32, 3) := by decide +kernel
theorem dX3_shelter_45 : decode cX3_shelter 45 = .ok (.aload_n 1, 1) := by decide +kernel
theorem dX3_shelter_46 : decode cX3_shelter 46 = .ok (.invokevirtual 45, 3) := by decide +kernel
theorem dX3_shelter_49 : decode cX3_shelter 49 = .ok (.iinc 2 1, 3) := by decide +kernel
theorem dX3_shelter_52 : decode cX3_shelter 52 = .ok (.goto (-50), 3) := by decide +kernel
theorem dX3_shelter_55 : decode cX3_shelter 55 = .ok (.return_, 1) := by decide +kernel
theorem dX3_directionOf_0 : decode cX3_directionOf 0 = .ok (.iload_n 1, 1) := by decide +kernel
theorem dX3_directionOf_1 : decode cX3_directionOf 1 = .ok (.ifCond .lt 31, 3) := by decide +kernel
theorem dX3_directionOf_4 : decode cX3_directionOf 4 = .ok (.iload_n 1, 1) := by decide +kernel
theorem dX3_directionOf_5 : decode cX3_directionOf 5 = .ok (.aload_n 0, 1) := by decide +kernel
theorem dX3_directionOf_6 : decode cX3_directionOf 6 = .ok (.getfield 12, 3) := by decide +kernel
theorem dX3_directionOf_9 : decode cX3_directionOf 9 = .ok (.invokevirtual 18, 3) := by decide +kernel
theorem dX3_directionOf_12 : decode cX3_directionOf 12 = .ok (.if_icmp .ge 20, 3) := by decide +kernel
theorem dX3_directionOf_15 : decode cX3_directionOf 15 = .ok (.aload_n 0, 1) := by decide +kernel
theorem dX3_directionOf_16 : decode cX3_directionOf 16 = .ok (.getfield 12, 3) := by decide +kernel
theorem dX3_directionOf_19 : decode cX3_directionOf 19 = .ok (.iload_n 1, 1) := by decide +kernel
theorem dX3_directionOf_20 : decode cX3_directionOf 20 = .ok (.invokevirtual 22, 3) := by decide +kernel
theorem dX3_directionOf_23 : decode cX3_directionOf 23 = .ok (.checkcast 26, 3) := by decide +kernel
theorem dX3_directionOf_26 : decode cX3_directionOf 26 = .ok (.getfield 49, 3) := by decide +kernel
theorem dX3_directionOf_29 : decode cX3_directionOf 29 = .ok (.goto 4, 3) := by decide +kernel
theorem dX3_directionOf_32 : decode cX3_directionOf 32 = .ok (.iconst 0, 1) := by decide +kernel
theorem dX3_directionOf_33 : decode cX3_directionOf 33 = .ok (.ireturn, 1) := by decide +kernel
theorem dX3_blowOnAll_0 : decode cX3_blowOnAll 0 = .ok (.iconst 0, 1) := by decide +kernel
theorem dX3_blowOnAll_1 : decode cX3_blowOnAll 1 = .ok (.istore_n 2, 1) := by decide +kernel
theorem dX3_blowOnAll_2 : decode cX3_blowOnAll 2 = .ok (.iload_n 2, 1) := by decide +kernel
theorem dX3_blowOnAll_3 : decode cX3_blowOnAll 3 = .ok (.aload_n 0, 1) := by decide +kernel
theorem dX3_blowOnAll_4 : decode cX3_blowOnAll 4 = .ok (.getfield 12, 3) := by decide +kernel
theorem dX3_blowOnAll_7 : decode cX3_blowOnAll 7 = .ok (.invokevirtual 18, 3) := by decide +kernel
theorem dX3_blowOnAll_10 : decode cX3_blowOnAll 10 = .ok (.if_icmp .ge 24, 3) := by decide +kernel
theorem dX3_blowOnAll_13 : decode cX3_blowOnAll 13 = .ok (.aload_n 0, 1) := by decide +kernel
theorem dX3_blowOnAll_14 : decode cX3_blowOnAll 14 = .ok (.getfield 12, 3) := by decide +kernel
theorem dX3_blowOnAll_17 : decode cX3_blowOnAll 17 = .ok (.iload_n 2, 1) := by decide +kernel
theorem dX3_blowOnAll_18 : decode cX3_blowOnAll 18 = .ok (.invokevirtual 22, 3) := by decide +kernel
theorem dX3_blowOnAll_21 : decode cX3_blowOnAll 21 = .ok (.checkcast 26, 3) := by decide +kernel
theorem dX3_blowOnAll_24 : decode cX3_blowOnAll 24 = .ok (.aload_n 1, 1) := by decide +kernel
theorem dX3_blowOnAll_25 : decode cX3_blowOnAll 25 = .ok (.invokevirtual 52, 3) := by decide +kernel
theorem dX3_blowOnAll_28 : decode cX3_blowOnAll 28 = .ok (.iinc 2 1, 3) := by decide +kernel
theorem dX3_blowOnAll_31 : decode cX3_blowOnAll 31 = .ok (.goto (-29), 3) := by decide +kernel
theorem dX3_blowOnAll_34 : decode cX3_blowOnAll 34 = .ok (.return_, 1) := by decide +kernel
theorem dX3_rainOnAll_0 : decode cX3_rainOnAll 0 = .ok (.iconst 0, 1) := by decide +kernel
theorem dX3_rainOnAll_1 : decode cX3_rainOnAll 1 = .ok (.istore_n 1, 1) := by decide +kernel
theorem dX3_rainOnAll_2 : decode cX3_rainOnAll 2 = .ok (.iload_n 1, 1) := by decide +kernel
theorem dX3_rainOnAll_3 : decode cX3_rainOnAll 3 = .ok (.aload_n 0, 1) := by decide +kernel
theorem dX3_rainOnAll_4 : decode cX3_rainOnAll 4 = .ok (.getfield 12, 3) := by decide +kernel
theorem dX3_rainOnAll_7 : decode cX3_rainOnAll 7 = .ok (.invokevirtual 18, 3) := by decide +kernel
theorem dX3_rainOnAll_10 : decode cX3_rainOnAll 10 = .ok (.if_icmp .ge 23, 3) := by decide +kernel
theorem dX3_rainOnAll_13 : decode cX3_rainOnAll 13 = .ok (.aload_n 0, 1) := by decide +kernel
theorem dX3_rainOnAll_14 : decode cX3_rainOnAll 14 = .ok (.getfield 12, 3) := by decide +kernel
theorem dX3_rainOnAll_17 : decode cX3_rainOnAll 17 = .ok (.iload_n 1, 1) := by decide +kernel
theorem dX3_rainOnAll_18 : decode cX3_rainOnAll 18 = .ok (.invokevirtual 22, 3) := by decide +kernel
theorem dX3_rainOnAll_21 : decode cX3_rainOnAll 21 = .ok (.checkcast 26, 3) := by decide +kernel
theorem dX3_rainOnAll_24 : decode cX3_rainOnAll 24 = .ok (.invokevirtual 56, 3) := by decide +kernel
theorem dX3_rainOnAll_27 : decode cX3_rainOnAll 27 = .ok (.iinc 1 1, 3) := by decide +kernel
theorem dX3_rainOnAll_30 : decode cX3_rainOnAll 30 = .ok (.goto (-28), 3) := by decide +kernel
theorem dX3_rainOnAll_33 : decode cX3_rainOnAll 33 = .ok (.return_, 1) := by decide +kernel
theorem dX3_giveEffect_0 : decode cX3_giveEffect 0 = .ok (.iconst 0, 1) := by decide +kernel
theorem dX3_giveEffect_1 : decode cX3_giveEffect 1 = .ok (.istore_n 2, 1) := by decide +kernel
theorem dX3_giveEffect_2 : decode cX3_giveEffect 2 = .ok (.iload_n 2, 1) := by decide +kernel
theorem dX3_giveEffect_3 : decode cX3_giveEffect 3 = .ok (.aload_n 0, 1) := by decide +kernel
theorem dX3_giveEffect_4 : decode cX3_giveEffect 4 = .ok (.getfield 12, 3) := by decide +kernel
theorem dX3_giveEffect_7 : decode cX3_giveEffect 7 = .ok (.invokevirtual 18, 3) := by decide +kernel
theorem dX3_giveEffect_10 : decode cX3_giveEffect 10 = .ok (.if_icmp .ge 42, 3) := by decide +kernel
theorem dX3_giveEffect_13 : decode cX3_giveEffect 13 = .ok (.aload_n 0, 1) := by decide +kernel
theorem dX3_giveEffect_14 : decode cX3_giveEffect 14 = .ok (.getfield 12, 3) := by decide +kernel
theorem dX3_giveEffect_17 : decode cX3_giveEffect 17 = .ok (.iload_n 2, 1) := by decide +kernel
theorem dX3_giveEffect_18 : decode cX3_giveEffect 18 = .ok (.invokevirtual 22, 3) := by decide +kernel
theorem dX3_giveEffect_21 : decode cX3_giveEffect 21 = .ok (.checkcast 26, 3) := by decide +kernel
theorem dX3_giveEffect_24 : decode cX3_giveEffect 24 = .ok (.aload_n 1, 1) := by decide +kernel
theorem dX3_giveEffect_25 : decode cX3_giveEffect 25 = .ok (.getfield 59, 3) := by decide +kernel
theorem dX3_giveEffect_28 : decode cX3_giveEffect 28 = .ok (.aload_n 1, 1) := by decide +kernel
theorem dX3_giveEffect_29 : decode cX3_giveEffect 29 = .ok (.aload_n 0, 1) := by decide +kernel
theorem dX3_giveEffect_30 : decode cX3_giveEffect 30 = .ok (.getfield 12, 3) := by decide +kernel
theorem dX3_giveEffect_33 : decode cX3_giveEffect 33 = .ok (.iload_n 2, 1) := by decide +kernel
theorem dX3_giveEffect_34 : decode cX3_giveEffect 34 = .ok (.invokevirtual 22, 3) := by decide +kernel
theorem dX3_giveEffect_37 : decode cX3_giveEffect 37 = .ok (.checkcast 26, 3) := by decide +kernel
theorem dX3_giveEffect_40 : decode cX3_giveEffect 40 = .ok (.invokevirtual 64, 3) := by decide +kernel
theorem dX3_giveEffect_43 : decode cX3_giveEffect 43 = .ok (.invokevirtual 68, 3) := by decide +kernel
theorem dX3_giveEffect_46 : decode cX3_giveEffect 46 = .ok (.iinc 2 1, 3) := by decide +kernel
theorem dX3_giveEffect_49 : decode cX3_giveEffect 49 = .ok (.goto (-47), 3) := by decide +kernel
theorem dX3_giveEffect_52 : decode cX3_giveEffect 52 = .ok (.return_, 1) := by decide +kernel
theorem dX3_carries_0 : decode cX3_carries 0 = .ok (.iconst 0, 1) := by decide +kernel
theorem dX3_carries_1 : decode cX3_carries 1 = .ok (.istore_n 2, 1) := by decide +kernel
theorem dX3_carries_2 : decode cX3_carries 2 = .ok (.iconst 0, 1) := by decide +kernel
theorem dX3_carries_3 : decode cX3_carries 3 = .ok (.istore_n 3, 1) := by decide +kernel
theorem dX3_carries_4 : decode cX3_carries 4 = .ok (.iconst 0, 1) := by decide +kernel
theorem dX3_carries_5 : decode cX3_carries 5 = .ok (.istore 4, 2) := by decide +kernel
theorem dX3_carries_7 : decode cX3_carries 7 = .ok (.iload 4, 2) := by decide +kernel
theorem dX3_carries_9 : decode cX3_carries 9 = .ok (.aload_n 0, 1) := by decide +kernel
theorem dX3_carries_10 : decode cX3_carries 10 = .ok (.getfield 12, 3) := by decide +kernel
theorem dX3_carries_13 : decode cX3_carries 13 = .ok (.invokevirtual 18, 3) := by decide +kernel
theorem dX3_carries_16 : decode cX3_carries 16 = .ok (.if_icmp .ge 72, 3) := by decide +kernel
theorem dX3_carries_19 : decode cX3_carries 19 = .ok (.aload_n 1, 1) := by decide +kernel
theorem dX3_carries_20 : decode cX3_carries 20 = .ok (.aload_n 0, 1) := by decide +kernel
theorem dX3_carries_21 : decode cX3_carries 21 = .ok (.getfield 12, 3) := by decide +kernel
theorem dX3_carries_24 : decode cX3_carries 24 = .ok (.iload 4, 2) := by decide +kernel
theorem dX3_carries_26 : decode cX3_carries 26 = .ok (.invokevirtual 22, 3) := by decide +kernel
theorem dX3_carries_29 : decode cX3_carries 29 = .ok (.checkcast 26, 3) := by decide +kernel
theorem dX3_carries_32 : decode cX3_carries 32 = .ok (.invokevirtual 64, 3) := by decide +kernel
theorem dX3_carries_35 : decode cX3_carries 35 = .ok (.istore 5, 2) := by decide +kernel
theorem dX3_carries_37 : decode cX3_carries 37 = .ok (.iload_n 2, 1) := by decide +kernel
theorem dX3_carries_38 : decode cX3_carries 38 = .ok (.aload_n 0, 1) := by decide +kernel
theorem dX3_carries_39 : decode cX3_carries 39 = .ok (.getfield 12, 3) := by decide +kernel
theorem dX3_carries_42 : decode cX3_carries 42 = .ok (.iload 4, 2) := by decide +kernel
theorem dX3_carries_44 : decode cX3_carries 44 = .ok (.invokevirtual 22, 3) := by decide +kernel
theorem dX3_carries_47 : decode cX3_carries 47 = .ok (.checkcast 26, 3) := by decide +kernel
theorem dX3_carries_50 : decode cX3_carries 50 = .ok (.getfield 72, 3) := by decide +kernel
theorem dX3_carries_53 : decode cX3_carries 53 = .ok (.iload 5, 2) := by decide +kernel
theorem dX3_carries_55 : decode cX3_carries 55 = .ok (.invokestatic 75, 3) := by decide +kernel
theorem dX3_carries_58 : decode cX3_carries 58 = .ok (.imul, 1) := by decide +kernel
theorem dX3_carries_59 : decode cX3_carries 59 = .ok (.iadd, 1) := by decide +kernel
theorem dX3_carries_60 : decode cX3_carries 60 = .ok (.istore_n 2, 1) := by decide +kernel
theorem dX3_carries_61 : decode cX3_carries 61 = .ok (.iload_n 3, 1) := by decide +kernel
theorem dX3_carries_62 : decode cX3_carries 62 = .ok (.aload_n 0, 1) := by decide +kernel
theorem dX3_carries_63 : decode cX3_carries 63 = .ok (.getfield 12, 3) := by decide +kernel
theorem dX3_carries_66 : decode cX3_carries 66 = .ok (.iload 4, 2) := by decide +kernel
theorem dX3_carries_68 : decode cX3_carries 68 = .ok (.invokevirtual 22, 3) := by decide +kernel
theorem dX3_carries_71 : decode cX3_carries 71 = .ok (.checkcast 26, 3) := by decide +kernel
theorem dX3_carries_74 : decode cX3_carries 74 = .ok (.getfield 72, 3) := by decide +kernel
theorem dX3_carries_77 : decode cX3_carries 77 = .ok (.iload 5, 2) := by decide +kernel
theorem dX3_carries_79 : decode cX3_carries 79 = .ok (.imul, 1) := by decide +kernel
theorem dX3_carries_80 : decode cX3_carries 80 = .ok (.iadd, 1) := by decide +kernel
theorem dX3_carries_81 : decode cX3_carries 81 = .ok (.istore_n 3, 1) := by decide +kernel
theorem dX3_carries_82 : decode cX3_carries 82 = .ok (.iinc 4 1, 3) := by decide +kernel
theorem dX3_carries_85 : decode cX3_carries 85 = .ok (.goto (-78), 3) := by decide +kernel
theorem dX3_carries_88 : decode cX3_carries 88 = .ok (.iload_n 2, 1) := by decide +kernel
theorem dX3_carries_89 : decode cX3_carries 89 = .ok (.aload_n 1, 1) := by decide +kernel
theorem dX3_carries_90 : decode cX3_carries 90 = .ok (.getfield 81, 3) := by decide +kernel
theorem dX3_carries_93 : decode cX3_carries 93 = .ok (.if_icmp .lt 11, 3) := by decide +kernel
theorem dX3_carries_96 : decode cX3_carries 96 = .ok (.iload_n 3, 1) := by decide +kernel
theorem dX3_carries_97 : decode cX3_carries 97 = .ok (.ifCond .le 7, 3) := by decide +kernel
theorem dX3_carries_100 : decode cX3_carries 100 = .ok (.iconst 1, 1) := by decide +kernel
theorem dX3_carries_101 : decode cX3_carries 101 = .ok (.goto 4, 3) := by decide +kernel
theorem dX3_carries_104 : decode cX3_carries 104 = .ok (.iconst 0, 1) := by decide +kernel
theorem dX3_carries_105 : decode cX3_carries 105 = .ok (.ireturn, 1) := by decide +kernel
theorem dX3_votesOnSide_0 : decode cX3_votesOnSide 0 = .ok (.iconst 0, 1) := by decide +kernel
theorem dX3_votesOnSide_1 : decode cX3_votesOnSide 1 = .ok (.istore_n 3, 1) := by decide +kernel
theorem dX3_votesOnSide_2 : decode cX3_votesOnSide 2 = .ok (.iconst 0, 1) := by decide +kernel
theorem dX3_votesOnSide_3 : decode cX3_votesOnSide 3 = .ok (.istore 4, 2) := by decide +kernel
theorem dX3_votesOnSide_5 : decode cX3_votesOnSide 5 = .ok (.iload 4, 2) := by decide +kernel
theorem dX3_votesOnSide_7 : decode cX3_votesOnSide 7 = .ok (.aload_n 0, 1) := by decide +kernel
theorem dX3_votesOnSide_8 : decode cX3_votesOnSide 8 = .ok (.getfield 12, 3) := by decide +kernel
theorem dX3_votesOnSide_11 : decode cX3_votesOnSide 11 = .ok (.invokevirtual 18, 3) := by decide +kernel
theorem dX3_votesOnSide_14 : decode cX3_votesOnSide 14 = .ok (.if_icmp .ge 47, 3) := by decide +kernel
theorem dX3_votesOnSide_17 : decode cX3_votesOnSide 17 = .ok (.aload_n 1, 1) := by decide +kernel
theorem dX3_votesOnSide_18 : decode cX3_votesOnSide 18 = .ok (.aload_n 0, 1) := by decide +kernel
theorem dX3_votesOnSide_19 : decode cX3_votesOnSide 19 = .ok (.getfield 12, 3) := by decide +kernel
theorem dX3_votesOnSide_22 : decode cX3_votesOnSide 22 = .ok (.iload 4, 2) := by decide +kernel
theorem dX3_votesOnSide_24 : decode cX3_votesOnSide 24 = .ok (.invokevirtual 22, 3) := by decide +kernel
theorem dX3_votesOnSide_27 : decode cX3_votesOnSide 27 = .ok (.checkcast 26, 3) := by decide +kernel
theorem dX3_votesOnSide_30 : decode cX3_votesOnSide 30 = .ok (.invokevirtual 64, 3) := by decide +kernel
theorem dX3_votesOnSide_33 : decode cX3_votesOnSide 33 = .ok (.iload_n 2, 1) := by decide +kernel
theorem dX3_votesOnSide_34 : decode cX3_votesOnSide 34 = .ok (.if_icmp .ne 21, 3) := by decide +kernel
theorem dX3_votesOnSide_37 : decode cX3_votesOnSide 37 = .ok (.iload_n 3, 1) := by decide +kernel
theorem dX3_votesOnSide_38 : decode cX3_votesOnSide 38 = .ok (.aload_n 0, 1) := by decide +kernel
theorem dX3_votesOnSide_39 : decode cX3_votesOnSide 39 = .ok (.getfield 12, 3) := by decide +kernel
theorem dX3_votesOnSide_42 : decode cX3_votesOnSide 42 = .ok (.iload 4, 2) := by decide +kernel
theorem dX3_votesOnSide_44 : decode cX3_votesOnSide 44 = .ok (.invokevirtual 22, 3) := by decide +kernel
theorem dX3_votesOnSide_47 : decode cX3_votesOnSide 47 = .ok (.checkcast 26, 3) := by decide +kernel
theorem dX3_votesOnSide_50 : decode cX3_votesOnSide 50 = .ok (.getfield 72, 3) := by decide +kernel
theorem dX3_votesOnSide_53 : decode cX3_votesOnSide 53 = .ok (.iadd, 1) := by decide +kernel
theorem dX3_votesOnSide_54 : decode cX3_votesOnSide 54 = .ok (.istore_n 3, 1) := by decide +kernel
theorem dX3_votesOnSide_55 : decode cX3_votesOnSide 55 = .ok (.iinc 4 1, 3) := by decide +kernel
theorem dX3_votesOnSide_58 : decode cX3_votesOnSide 58 = .ok (.goto (-53), 3) := by decide +kernel
theorem dX3_votesOnSide_61 : decode cX3_votesOnSide 61 = .ok (.iload_n 3, 1) := by decide +kernel
theorem dX3_votesOnSide_62 : decode cX3_votesOnSide 62 = .ok (.ireturn, 1) := by decide +kernel
theorem dX3_allVotes_0 : decode cX3_allVotes 0 = .ok (.aload_n 0, 1) := by decide +kernel
theorem dX3_allVotes_1 : decode cX3_allVotes 1 = .ok (.bipush 15, 2) := by decide +kernel
theorem dX3_allVotes_3 : decode cX3_allVotes 3 = .ok (.invokevirtual 84, 3) := by decide +kernel
theorem dX3_allVotes_6 : decode cX3_allVotes 6 = .ok (.ireturn, 1) := by decide +kernel
theorem dX3_votesOf_0 : decode cX3_votesOf 0 = .ok (.iconst 0, 1) := by decide +kernel
theorem dX3_votesOf_1 : decode cX3_votesOf 1 = .ok (.istore_n 2, 1) := by decide +kernel
theorem dX3_votesOf_2 : decode cX3_votesOf 2 = .ok (.iconst 0, 1) := by decide +kernel
theorem dX3_votesOf_3 : decode cX3_votesOf 3 = .ok (.istore_n 3, 1) := by decide +kernel
theorem dX3_votesOf_4 : decode cX3_votesOf 4 = .ok (.iload_n 3, 1) := by decide +kernel
theorem dX3_votesOf_5 : decode cX3_votesOf 5 = .ok (.aload_n 0, 1) := by decide +kernel
theorem dX3_votesOf_6 : decode cX3_votesOf 6 = .ok (.getfield 12, 3) := by decide +kernel
theorem dX3_votesOf_9 : decode cX3_votesOf 9 = .ok (.invokevirtual 18, 3) := by decide +kernel
theorem dX3_votesOf_12 : decode cX3_votesOf 12 = .ok (.if_icmp .ge 48, 3) := by decide +kernel
theorem dX3_votesOf_15 : decode cX3_votesOf 15 = .ok (.iload_n 1, 1) := by decide +kernel
theorem dX3_votesOf_16 : decode cX3_votesOf 16 = .ok (.aload_n 0, 1) := by decide +kernel
theorem dX3_votesOf_17 : decode cX3_votesOf 17 = .ok (.getfield 12, 3) := by decide +kernel
theorem dX3_votesOf_20 : decode cX3_votesOf 20 = .ok (.iload_n 3, 1) := by decide +kernel
theorem dX3_votesOf_21 : decode cX3_votesOf 21 = .ok (.invokevirtual 22, 3) := by decide +kernel
theorem dX3_votesOf_24 : decode cX3_votesOf 24 = .ok (.checkcast 26, 3) := by decide +kernel
theorem dX3_votesOf_27 : decode cX3_votesOf 27 = .ok (.invokevirtual 87, 3) := by decide +kernel
theorem dX3_votesOf_30 : decode cX3_votesOf 30 = .ok (.ishr, 1) := by decide +kernel
theorem dX3_votesOf_31 : decode cX3_votesOf 31 = .ok (.iconst 1, 1) := by decide +kernel
theorem dX3_votesOf_32 : decode cX3_votesOf 32 = .ok (.iand, 1) := by decide +kernel
theorem dX3_votesOf_33 : decode cX3_votesOf 33 = .ok (.iconst 1, 1) := by decide +kernel
theorem dX3_votesOf_34 : decode cX3_votesOf 34 = .ok (.if_icmp .ne 20, 3) := by decide +kernel
theorem dX3_votesOf_37 : decode cX3_votesOf 37 = .ok (.iload_n 2, 1) := by decide +kernel
theorem dX3_votesOf_38 : decode cX3_votesOf 38 = .ok (.aload_n 0, 1) := by decide +kernel
theorem dX3_votesOf_39 : decode cX3_votesOf 39 = .ok (.getfield 12, 3) := by decide +kernel
theorem dX3_votesOf_42 : decode cX3_votesOf 42 = .ok (.iload_n 3, 1) := by decide +kernel
theorem dX3_votesOf_43 : decode cX3_votesOf 43 = .ok (.invokevirtual 22, 3) := by decide +kernel
theorem dX3_votesOf_46 : decode cX3_votesOf 46 = .ok (.checkcast 26, 3) := by decide +kernel
theorem dX3_votesOf_49 : decode cX3_votesOf 49 = .ok (.getfield 72, 3) := by decide +kernel
theorem dX3_votesOf_52 : decode cX3_votesOf 52 = .ok (.iadd, 1) := by decide +kernel
theorem dX3_votesOf_53 : decode cX3_votesOf 53 = .ok (.istore_n 2, 1) := by decide +kernel
theorem dX3_votesOf_54 : decode cX3_votesOf 54 = .ok (.iinc 3 1, 3) := by decide +kernel
theorem dX3_votesOf_57 : decode cX3_votesOf 57 = .ok (.goto (-53), 3) := by decide +kernel
theorem dX3_votesOf_60 : decode cX3_votesOf 60 = .ok (.iload_n 2, 1) := by decide +kernel
theorem dX3_votesOf_61 : decode cX3_votesOf 61 = .ok (.ireturn, 1) := by decide +kernel
theorem dX3_vanesOf_0 : decode cX3_vanesOf 0 = .ok (.iconst 0, 1) := by decide +kernel
theorem dX3_vanesOf_1 : decode cX3_vanesOf 1 = .ok (.istore_n 2, 1) := by decide +kernel
theorem dX3_vanesOf_2 : decode cX3_vanesOf 2 = .ok (.iconst 0, 1) := by decide +kernel
theorem dX3_vanesOf_3 : decode cX3_vanesOf 3 = .ok (.istore_n 3, 1) := by decide +kernel
theorem dX3_vanesOf_4 : decode cX3_vanesOf 4 = .ok (.iload_n 3, 1) := by decide +kernel
theorem dX3_vanesOf_5 : decode cX3_vanesOf 5 = .ok (.aload_n 0, 1) := by decide +kernel
theorem dX3_vanesOf_6 : decode cX3_vanesOf 6 = .ok (.getfield 12, 3) := by decide +kernel
theorem dX3_vanesOf_9 : decode cX3_vanesOf 9 = .ok (.invokevirtual 18, 3) := by decide +kernel
theorem dX3_vanesOf_12 : decode cX3_vanesOf 12 = .ok (.if_icmp .ge 30, 3) := by decide +kernel
theorem dX3_vanesOf_15 : decode cX3_vanesOf 15 = .ok (.iload_n 2, 1) := by decide +kernel
theorem dX3_vanesOf_16 : decode cX3_vanesOf 16 = .ok (.iload_n 1, 1) := by decide +kernel
theorem dX3_vanesOf_17 : decode cX3_vanesOf 17 = .ok (.aload_n 0, 1) := by decide +kernel
theorem dX3_vanesOf_18 : decode cX3_vanesOf 18 = .ok (.getfield 12, 3) := by decide +kernel
theorem dX3_vanesOf_21 : decode cX3_vanesOf 21 = .ok (.iload_n 3, 1) := by decide +kernel
theorem dX3_vanesOf_22 : decode cX3_vanesOf 22 = .ok (.invokevirtual 22, 3) := by decide +kernel
theorem dX3_vanesOf_25 : decode cX3_vanesOf 25 = .ok (.checkcast 26, 3) := by decide +kernel
theorem dX3_vanesOf_28 : decode cX3_vanesOf 28 = .ok (.invokevirtual 87, 3) := by decide +kernel
theorem dX3_vanesOf_31 : decode cX3_vanesOf 31 = .ok (.ishr, 1) := by decide +kernel
theorem dX3_vanesOf_32 : decode cX3_vanesOf 32 = .ok (.iconst 1, 1) := by decide +kernel
theorem dX3_vanesOf_33 : decode cX3_vanesOf 33 = .ok (.iand, 1) := by decide +kernel
theorem dX3_vanesOf_34 : decode cX3_vanesOf 34 = .ok (.iadd, 1) := by decide +kernel
theorem dX3_vanesOf_35 : decode cX3_vanesOf 35 = .ok (.istore_n 2, 1) := by decide +kernel
theorem dX3_vanesOf_36 : decode cX3_vanesOf 36 = .ok (.iinc 3 1, 3) := by decide +kernel
theorem dX3_vanesOf_39 : decode cX3_vanesOf 39 = .ok (.goto (-35), 3) := by decide +kernel
theorem dX3_vanesOf_42 : decode cX3_vanesOf 42 = .ok (.iload_n 2, 1) := by decide +kernel
theorem dX3_vanesOf_43 : decode cX3_vanesOf 43 = .ok (.ireturn, 1) := by decide +kernel
theorem dX3_boundVanes_0 : decode cX3_boundVanes 0 = .ok (.iconst 0, 1) := by decide +kernel
theorem dX3_boundVanes_1 : decode cX3_boundVanes 1 = .ok (.istore_n 1, 1) := by decide +kernel
theorem dX3_boundVanes_2 : decode cX3_boundVanes 2 = .ok (.iconst 0, 1) := by decide +kernel
theorem dX3_boundVanes_3 : decode cX3_boundVanes 3 = .ok (.istore_n 2, 1) := by decide +kernel
theorem dX3_boundVanes_4 : decode cX3_boundVanes 4 = .ok (.iload_n 2, 1) := by decide +kernel
theorem dX3_boundVanes_5 : decode cX3_boundVanes 5 = .ok (.aload_n 0, 1) := by decide +kernel
theorem dX3_boundVanes_6 : decode cX3_boundVanes 6 = .ok (.getfield 12, 3) := by decide +kernel
theorem dX3_boundVanes_9 : decode cX3_boundVanes 9 = .ok (.invokevirtual 18, 3) := by decide +kernel
theorem dX3_boundVanes_12 : decode cX3_boundVanes 12 = .ok (.if_icmp .ge 29, 3) := by decide +kernel
theorem dX3_boundVanes_15 : decode cX3_boundVanes 15 = .ok (.aload_n 0, 1) := by decide +kernel
theorem dX3_boundVanes_16 : decode cX3_boundVanes 16 = .ok (.getfield 12, 3) := by decide +kernel
theorem dX3_boundVanes_19 : decode cX3_boundVanes 19 = .ok (.iload_n 2, 1) := by decide +kernel
theorem dX3_boundVanes_20 : decode cX3_boundVanes 20 = .ok (.invokevirtual 22, 3) := by decide +kernel
theorem dX3_boundVanes_23 : decode cX3_boundVanes 23 = .ok (.checkcast 26, 3) := by decide +kernel
theorem dX3_boundVanes_26 : decode cX3_boundVanes 26 = .ok (.getfield 90, 3) := by decide +kernel
theorem dX3_boundVanes_29 : decode cX3_boundVanes 29 = .ok (.ifCond .le 6, 3) := by decide +kernel
theorem dX3_boundVanes_32 : decode cX3_boundVanes 32 = .ok (.iinc 1 1, 3) := by decide +kernel
theorem dX3_boundVanes_35 : decode cX3_boundVanes 35 = .ok (.iinc 2 1, 3) := by decide +kernel
theorem dX3_boundVanes_38 : decode cX3_boundVanes 38 = .ok (.goto (-34), 3) := by decide +kernel
theorem dX3_boundVanes_41 : decode cX3_boundVanes 41 = .ok (.iload_n 1, 1) := by decide +kernel
theorem dX3_boundVanes_42 : decode cX3_boundVanes 42 = .ok (.ireturn, 1) := by decide +kernel
theorem dX3_stuckVanes_0 : decode cX3_stuckVanes 0 = .ok (.iconst 0, 1) := by decide +kernel
theorem dX3_stuckVanes_1 : decode cX3_stuckVanes 1 = .ok (.istore_n 2, 1) := by decide +kernel
theorem dX3_stuckVanes_2 : decode cX3_stuckVanes 2 = .ok (.iconst 0, 1) := by decide +kernel
theorem dX3_stuckVanes_3 : decode cX3_stuckVanes 3 = .ok (.istore_n 3, 1) := by decide +kernel
theorem dX3_stuckVanes_4 : decode cX3_stuckVanes 4 = .ok (.iload_n 3, 1) := by decide +kernel
theorem dX3_stuckVanes_5 : decode cX3_stuckVanes 5 = .ok (.aload_n 0, 1) := by decide +kernel
theorem dX3_stuckVanes_6 : decode cX3_stuckVanes 6 = .ok (.getfield 12, 3) := by decide +kernel
theorem dX3_stuckVanes_9 : decode cX3_stuckVanes 9 = .ok (.invokevirtual 18, 3) := by decide +kernel
theorem dX3_stuckVanes_12 : decode cX3_stuckVanes 12 = .ok (.if_icmp .ge 47, 3) := by decide +kernel
theorem dX3_stuckVanes_15 : decode cX3_stuckVanes 15 = .ok (.aload_n 0, 1) := by decide +kernel
theorem dX3_stuckVanes_16 : decode cX3_stuckVanes 16 = .ok (.getfield 12, 3) := by decide +kernel
theorem dX3_stuckVanes_19 : decode cX3_stuckVanes 19 = .ok (.iload_n 3, 1) := by decide +kernel
theorem dX3_stuckVanes_20 : decode cX3_stuckVanes 20 = .ok (.invokevirtual 22, 3) := by decide +kernel
theorem dX3_stuckVanes_23 : decode cX3_stuckVanes 23 = .ok (.checkcast 26, 3) := by decide +kernel
theorem dX3_stuckVanes_26 : decode cX3_stuckVanes 26 = .ok (.getfield 90, 3) := by decide +kernel
theorem dX3_stuckVanes_29 : decode cX3_stuckVanes 29 = .ok (.ifCond .ne 24, 3) := by decide +kernel
theorem dX3_stuckVanes_32 : decode cX3_stuckVanes 32 = .ok (.aload_n 0, 1) := by decide +kernel
theorem dX3_stuckVanes_33 : decode cX3_stuckVanes 33 = .ok (.getfield 12, 3) := by decide +kernel
theorem dX3_stuckVanes_36 : decode cX3_stuckVanes 36 = .ok (.iload_n 3, 1) := by decide +kernel
theorem dX3_stuckVanes_37 : decode cX3_stuckVanes 37 = .ok (.invokevirtual 22, 3) := by decide +kernel
theorem dX3_stuckVanes_40 : decode cX3_stuckVanes 40 = .ok (.checkcast 26, 3) := by decide +kernel
theorem dX3_stuckVanes_43 : decode cX3_stuckVanes 43 = .ok (.aload_n 1, 1) := by decide +kernel
theorem dX3_stuckVanes_44 : decode cX3_stuckVanes 44 = .ok (.invokevirtual 93, 3) := by decide +kernel
theorem dX3_stuckVanes_47 : decode cX3_stuckVanes 47 = .ok (.ifCond .eq 6, 3) := by decide +kernel
theorem dX3_stuckVanes_50 : decode cX3_stuckVanes 50 = .ok (.iinc 2 1, 3) := by decide +kernel
theorem dX3_stuckVanes_53 : decode cX3_stuckVanes 53 = .ok (.iinc 3 1, 3) := by decide +kernel
theorem dX3_stuckVanes_56 : decode cX3_stuckVanes 56 = .ok (.goto (-52), 3) := by decide +kernel
theorem dX3_stuckVanes_59 : decode cX3_stuckVanes 59 = .ok (.iload_n 2, 1) := by decide +kernel
theorem dX3_stuckVanes_60 : decode cX3_stuckVanes 60 = .ok (.ireturn, 1) := by decide +kernel
theorem dX4_init_0 : decode cX4_init 0 = .ok (.aload_n 0, 1) := by decide +kernel
theorem dX4_init_1 : decode cX4_init 1 = .ok (.invokespecial 3, 3) := by decide +kernel
theorem dX4_init_4 : decode cX4_init 4 = .ok (.aload_n 0, 1) := by decide +kernel
theorem dX4_init_5 : decode cX4_init 5 = .ok (.aload_n 1, 1) := by decide +kernel
theorem dX4_init_6 : decode cX4_init 6 = .ok (.putfield 9, 3) := by decide +kernel
theorem dX4_init_9 : decode cX4_init 9 = .ok (.aload_n 0, 1) := by decide +kernel
theorem dX4_init_10 : decode cX4_init 10 = .ok (.iload_n 2, 1) := by decide +kernel
theorem dX4_init_11 : decode cX4_init 11 = .ok (.putfield 15, 3) := by decide +kernel
theorem dX4_init_14 : decode cX4_init 14 = .ok (.aload_n 0, 1) := by decide +kernel
theorem dX4_init_15 : decode cX4_init 15 = .ok (.iload_n 3, 1) := by decide +kernel
theorem dX4_init_16 : decode cX4_init 16 = .ok (.putfield 19, 3) := by decide +kernel
theorem dX4_init_19 : decode cX4_init 19 = .ok (.return_, 1) := by decide +kernel
theorem dX4_copyFrom_0 : decode cX4_copyFrom 0 = .ok (.aload_n 0, 1) := by decide +kernel
theorem dX4_copyFrom_1 : decode cX4_copyFrom 1 = .ok (.aload_n 1, 1) := by decide +kernel
theorem dX4_copyFrom_2 : decode cX4_copyFrom 2 = .ok (.getfield 15, 3) := by decide +kernel
theorem dX4_copyFrom_5 : decode cX4_copyFrom 5 = .ok (.putfield 15, 3) := by decide +kernel
theorem dX4_copyFrom_8 : decode cX4_copyFrom 8 = .ok (.aload_n 0, 1) := by decide +kernel
theorem dX4_copyFrom_9 : decode cX4_copyFrom 9 = .ok (.aload_n 1, 1) := by decide +kernel
theorem dX4_copyFrom_10 : decode cX4_copyFrom 10 = .ok (.getfield 22, 3) := by decide +kernel
theorem dX4_copyFrom_13 : decode cX4_copyFrom 13 = .ok (.putfield 22, 3) := by decide +kernel
theorem dX4_copyFrom_16 : decode cX4_copyFrom 16 = .ok (.aload_n 0, 1) := by decide +kernel
theorem dX4_copyFrom_17 : decode cX4_copyFrom 17 = .ok (.aload_n 1, 1) := by decide +kernel
theorem dX4_copyFrom_18 : decode cX4_copyFrom 18 = .ok (.getfield 19, 3) := by decide +kernel
theorem dX4_copyFrom_21 : decode cX4_copyFrom 21 = .ok (.putfield 19, 3) := by decide +kernel
theorem dX4_copyFrom_24 : decode cX4_copyFrom 24 = .ok (.aload_n 0, 1) := by decide +kernel
theorem dX4_copyFrom_25 : decode cX4_copyFrom 25 = .ok (.aload_n 1, 1) := by decide +kernel
theorem dX4_copyFrom_26 : decode cX4_copyFrom 26 = .ok (.getfield 25, 3) := by decide +kernel
theorem dX4_copyFrom_29 : decode cX4_copyFrom 29 = .ok (.putfield 25, 3) := by decide +kernel
theorem dX4_copyFrom_32 : decode cX4_copyFrom 32 = .ok (.aload_n 0, 1) := by decide +kernel
theorem dX4_copyFrom_33 : decode cX4_copyFrom 33 = .ok (.aload_n 1, 1) := by decide +kernel
theorem dX4_copyFrom_34 : decode cX4_copyFrom 34 = .ok (.getfield 28, 3) := by decide +kernel
theorem dX4_copyFrom_37 : decode cX4_copyFrom 37 = .ok (.putfield 28, 3) := by decide +kernel
theorem dX4_copyFrom_40 : decode cX4_copyFrom 40 = .ok (.aload_n 0, 1) := by decide +kernel
theorem dX4_copyFrom_41 : decode cX4_copyFrom 41 = .ok (.aload_n 1, 1) := by decide +kernel
theorem dX4_copyFrom_42 : decode cX4_copyFrom 42 = .ok (.getfield 31, 3) := by decide +kernel
theorem dX4_copyFrom_45 : decode cX4_copyFrom 45 = .ok (.putfield 31, 3) := by decide +kernel
theorem dX4_copyFrom_48 : decode cX4_copyFrom 48 = .ok (.return_, 1) := by decide +kernel
theorem dX4_tell_0 : decode cX4_tell 0 = .ok (.iload_n 1, 1) := by decide +kernel
theorem dX4_tell_1 : decode cX4_tell 1 = .ok (.tableswitch 127 0 10 #[59, 67, 75, 83, 91, 96, 101, 106, 111, 116, 121], 59) := by decide +kernel
theorem dX4_tell_60 : decode cX4_tell 60 = .ok (.aload_n 0, 1) := by decide +kernel
theorem dX4_tell_61 : decode cX4_tell 61 = .ok (.getfield 9, 3) := by decide +kernel
theorem dX4_tell_64 : decode cX4_tell 64 = .ok (.getfield 34, 3) := by decide +kernel
theorem dX4_tell_67 : decode cX4_tell 67 = .ok (.ireturn, 1) := by decide +kernel
theorem dX4_tell_68 : decode cX4_tell 68 = .ok (.aload_n 0, 1) := by decide +kernel
theorem dX4_tell_69 : decode cX4_tell 69 = .ok (.getfield 9, 3) := by decide +kernel
theorem dX4_tell_72 : decode cX4_tell 72 = .ok (.getfield 39, 3) := by decide +kernel
theorem dX4_tell_75 : decode cX4_tell 75 = .ok (.ireturn, 1) := by decide +kernel
theorem dX4_tell_76 : decode cX4_tell 76 = .ok (.aload_n 0, 1) := by decide +kernel
theorem dX4_tell_77 : decode cX4_tell 77 = .ok (.getfield 9, 3) := by decide +kernel
theorem dX4_tell_80 : decode cX4_tell 80 = .ok (.getfield 42, 3) := by decide +kernel
theorem dX4_tell_83 : decode cX4_tell 83 = .ok (.ireturn, 1) := by decide +kernel
theorem dX4_tell_84 : decode cX4_tell 84 = .ok (.aload_n 0, 1) := by decide +kernel
theorem dX4_tell_85 : decode cX4_tell 85 = .ok (.getfield 9, 3) := by decide +kernel
theorem dX4_tell_88 : decode cX4_tell 88 = .ok (.getfield 45, 3) := by decide +kernel
theorem dX4_tell_91 : decode cX4_tell 91 = .ok (.ireturn, 1) := by decide +kernel
theorem dX4_tell_92 : decode cX4_tell 92 = .ok (.aload_n 0, 1) := by decide +kernel
theorem dX4_tell_93 : decode cX4_tell 93 = .ok (.getfield 15, 3) := by decide +kernel
theorem dX4_tell_96 : decode cX4_tell 96 = .ok (.ireturn, 1) := by decide +kernel
theorem dX4_tell_97 : decode cX4_tell 97 = .ok (.aload_n 0, 1) := by decide +kernel
theorem dX4_tell_98 : decode cX4_tell 98 = .ok (.getfield 22, 3) := by decide +kernel
theorem dX4_tell_101 : decode cX4_tell 101 = .ok (.ireturn, 1) := by decide +kernel
theorem dX4_tell_102 : decode cX4_tell 102 = .ok (.aload_n 0, 1) := by decide +kernel
theorem dX4_tell_103 : decode cX4_tell 103 = .ok (.getfield 19, 3) := by decide +kernel
theorem dX4_tell_106 : decode cX4_tell 106 = .ok (.ireturn, 1) := by decide +kernel
theorem dX4_tell_107 : decode cX4_tell 107 = .ok (.aload_n 0, 1) := by decide +kernel
theorem dX4_tell_108 : decode cX4_tell 108 = .ok (.getfield 25, 3) := by decide +kernel
theorem dX4_tell_111 : decode cX4_tell 111 = .ok (.ireturn, 1) := by decide +kernel
theorem dX4_tell_112 : decode cX4_tell 112 = .ok (.aload_n 0, 1) := by decide +kernel
theorem dX4_tell_113 : decode cX4_tell 113 = .ok (.getfield 28, 3) := by decide +kernel
theorem dX4_tell_116 : decode cX4_tell 116 = .ok (.ireturn, 1) := by decide +kernel
theorem dX4_tell_117 : decode cX4_tell 117 = .ok (.aload_n 0, 1) := by decide +kernel
theorem dX4_tell_118 : decode cX4_tell 118 = .ok (.invokevirtual 48, 3) := by decide +kernel
theorem dX4_tell_121 : decode cX4_tell 121 = .ok (.ireturn, 1) := by decide +kernel
theorem dX4_tell_122 : decode cX4_tell 122 = .ok (.aload_n 0, 1) := by decide +kernel
theorem dX4_tell_123 : decode cX4_tell 123 = .ok (.aload_n 2, 1) := by decide +kernel
theorem dX4_tell_124 : decode cX4_tell 124 = .ok (.invokevirtual 52, 3) := by decide +kernel
theorem dX4_tell_127 : decode cX4_tell 127 = .ok (.ireturn, 1) := by decide +kernel
theorem dX4_tell_128 : decode cX4_tell 128 = .ok (.aload_n 0, 1) := by decide +kernel
theorem dX4_tell_129 : decode cX4_tell 129 = .ok (.getfield 9, 3) := by decide +kernel
theorem dX4_tell_132 : decode cX4_tell 132 = .ok (.aload_n 2, 1) := by decide +kernel
theorem dX4_tell_133 : decode cX4_tell 133 = .ok (.invokevirtual 56, 3) := by decide +kernel
theorem dX4_tell_136 : decode cX4_tell 136 = .ok (.ireturn, 1) := by decide +kernel
theorem dX4_partyNumber_0 : decode cX4_partyNumber 0 = .ok (.aload_n 0, 1) := by decide +kernel
theorem dX4_partyNumber_1 : decode cX4_partyNumber 1 = .ok (.getfield 19, 3) := by decide +kernel
theorem dX4_partyNumber_4 : decode cX4_partyNumber 4 = .ok (.iconst 2, 1) := by decide +kernel
theorem dX4_partyNumber_5 : decode cX4_partyNumber 5 = .ok (.iadd, 1) := by decide +kernel
theorem dX4_partyNumber_6 : decode cX4_partyNumber 6 = .ok (.iconst 4, 1) := by decide +kernel
theorem dX4_partyNumber_7 : decode cX4_partyNumber 7 = .ok (.idiv, 1) := by decide +kernel
theorem dX4_partyNumber_8 : decode cX4_partyNumber 8 = .ok (.iconst 4, 1) := by decide +kernel
theorem dX4_partyNumber_9 : decode cX4_partyNumber 9 = .ok (.irem, 1) := by decide +kernel
theorem dX4_partyNumber_10 : decode cX4_partyNumber 10 = .ok (.ireturn, 1) := by decide +kernel
theorem dX4_windHere_0 : decode cX4_windHere 0 = .ok (.iconst 0, 1) := by decide +kernel
theorem dX4_windHere_1 : decode cX4_windHere 1 = .ok (.aload_n 1, 1) := by decide +kernel
theorem dX4_windHere_2 : decode cX4_windHere 2 = .ok (.getfield 59, 3) := by decide +kernel
theorem dX4_windHere_5 : decode cX4_windHere 5 = .ok (.iconst 2, 1) := by decide +kernel
theorem dX4_windHere_6 : decode cX4_windHere 6 = .ok (.aload_n 0, 1) := by decide +kernel
theorem dX4_windHere_7 : decode cX4_windHere 7 = .ok (.getfield 9, 3) := by decide +kernel
theorem dX4_windHere_10 : decode cX4_windHere 10 = .ok (.aload_n 1, 1) := by decide +kernel
theorem dX4_windHere_11 : decode cX4_windHere 11 = .ok (.invokevirtual 56, 3) := by decide +kernel
theorem dX4_windHere_14 : decode cX4_windHere 14 = .ok (.imul, 1) := by decide +kernel
theorem dX4_windHere_15 : decode cX4_windHere 15 = .ok (.isub, 1) := by decide +kernel
theorem dX4_windHere_16 : decode cX4_windHere 16 = .ok (.invokestatic 64, 3) := by decide +kernel
theorem dX4_windHere_19 : decode cX4_windHere 19 = .ok (.ireturn, 1) := by decide +kernel
theorem dX4_isStuck_0 : decode cX4_isStuck 0 = .ok (.aload_n 0, 1) := by decide +kernel
theorem dX4_isStuck_1 : decode cX4_isStuck 1 = .ok (.aload_n 1, 1) := by decide +kernel
theorem dX4_isStuck_2 : decode cX4_isStuck 2 = .ok (.invokevirtual 52, 3) := by decide +kernel
theorem dX4_isStuck_5 : decode cX4_isStuck 5 = .ok (.aload_n 0, 1) := by decide +kernel
theorem dX4_isStuck_6 : decode cX4_isStuck 6 = .ok (.getfield 22, 3) := by decide +kernel
theorem dX4_isStuck_9 : decode cX4_isStuck 9 = .ok (.if_icmp .gt 7, 3) := by decide +kernel
theorem dX4_isStuck_12 : decode cX4_isStuck 12 = .ok (.iconst 1, 1) := by decide +kernel
theorem dX4_isStuck_13 : decode cX4_isStuck 13 = .ok (.goto 4, 3) := by decide +kernel
theorem dX4_isStuck_16 : decode cX4_isStuck 16 = .ok (.iconst 0, 1) := by decide +kernel
theorem dX4_isStuck_17 : decode cX4_isStuck 17 = .ok (.ireturn, 1) := by decide +kernel
theorem dX4_blow_0 : decode cX4_blow 0 = .ok (.aload_n 0, 1) := by decide +kernel
theorem dX4_blow_1 : decode cX4_blow 1 = .ok (.getfield 28, 3) := by decide +kernel
theorem dX4_blow_4 : decode cX4_blow 4 = .ok (.ifCond .le 21, 3) := by decide +kernel
theorem dX4_blow_7 : decode cX4_blow 7 = .ok (.aload_n 0, 1) := by decide +kernel
theorem dX4_blow_8 : decode cX4_blow 8 = .ok (.dup, 1) := by decide +kernel
theorem dX4_blow_9 : decode cX4_blow 9 = .ok (.getfield 28, 3) := by decide +kernel
theorem dX4_blow_12 : decode cX4_blow 12 = .ok (.iconst 1, 1) := by decide +kernel
theorem dX4_blow_13 : decode cX4_blow 13 = .ok (.isub, 1) := by decide +kernel
theorem dX4_blow_14 : decode cX4_blow 14 = .ok (.putfield 28, 3) := by decide +kernel
theorem dX4_blow_17 : decode cX4_blow 17 = .ok (.aload_n 0, 1) := by decide +kernel
theorem dX4_blow_18 : decode cX4_blow 18 = .ok (.iconst 0, 1) := by decide +kernel
theorem dX4_blow_19 : decode cX4_blow 19 = .ok (.putfield 25, 3) := by decide +kernel
theorem dX4_blow_22 : decode cX4_blow 22 = .ok (.goto 46, 3) := by decide +kernel
theorem dX4_blow_25 : decode cX4_blow 25 = .ok (.aload_n 0, 1) := by decide +kernel
theorem dX4_blow_26 : decode cX4_blow 26 = .ok (.aload_n 1, 1) := by decide +kernel
theorem dX4_blow_27 : decode cX4_blow 27 = .ok (.invokevirtual 70, 3) := by decide +kernel
theorem dX4_blow_30 : decode cX4_blow 30 = .ok (.ifCond .eq 11, 3) := by decide +kernel
theorem dX4_blow_33 : decode cX4_blow 33 = .ok (.aload_n 0, 1) := by decide +kernel
theorem dX4_blow_34 : decode cX4_blow 34 = .ok (.iconst 0, 1) := by decide +kernel
theorem dX4_blow_35 : decode cX4_blow 35 = .ok (.putfield 25, 3) := by decide +kernel
theorem dX4_blow_38 : decode cX4_blow 38 = .ok (.goto 30, 3) := by decide +kernel
theorem dX4_blow_41 : decode cX4_blow 41 = .ok (.aload_n 0, 1) := by decide +kernel
theorem dX4_blow_42 : decode cX4_blow 42 = .ok (.aload_n 0, 1) := by decide +kernel
theorem dX4_blow_43 : decode cX4_blow 43 = .ok (.aload_n 1, 1) := by decide +kernel
theorem dX4_blow_44 : decode cX4_blow 44 = .ok (.invokevirtual 74, 3) := by decide +kernel
theorem dX4_blow_47 : decode cX4_blow 47 = .ok (.putfield 25, 3) := by decide +kernel
theorem dX4_blow_50 : decode cX4_blow 50 = .ok (.aload_n 0, 1) := by decide +kernel
theorem dX4_blow_51 : decode cX4_blow 51 = .ok (.aload_n 0, 1) := by decide +kernel
theorem dX4_blow_52 : decode cX4_blow 52 = .ok (.getfield 19, 3) := by decide +kernel
theorem dX4_blow_55 : decode cX4_blow 55 = .ok (.aload_n 0, 1) := by decide +kernel
theorem dX4_blow_56 : decode cX4_blow 56 = .ok (.getfield 25, 3) := by decide +kernel
theorem dX4_blow_59 : decode cX4_blow 59 = .ok (.iadd, 1) := by decide +kernel
theorem dX4_blow_60 : decode cX4_blow 60 = .ok (.bipush 16, 2) := by decide +kernel
theorem dX4_blow_62 : decode cX4_blow 62 = .ok (.invokestatic 77, 3) := by decide +kernel
theorem dX4_blow_65 : decode cX4_blow 65 = .ok (.putfield 19, 3) := by decide +kernel
theorem dX4_blow_68 : decode cX4_blow 68 = .ok (.return_, 1) := by decide +kernel
theorem dX4_nextSpin_0 : decode cX4_nextSpin 0 = .ok (.aload_n 0, 1) := by decide +kernel
theorem dX4_nextSpin_1 : decode cX4_nextSpin 1 = .ok (.getfield 19, 3) := by decide +kernel
theorem dX4_nextSpin_4 : decode cX4_nextSpin 4 = .ok (.aload_n 1, 1) := by decide +kernel
theorem dX4_nextSpin_5 : decode cX4_nextSpin 5 = .ok (.getfield 80, 3) := by decide +kernel
theorem dX4_nextSpin_8 : decode cX4_nextSpin 8 = .ok (.invokestatic 81, 3) := by decide +kernel
theorem dX4_nextSpin_11 : decode cX4_nextSpin 11 = .ok (.istore_n 2, 1) := by decide +kernel
theorem dX4_nextSpin_12 : decode cX4_nextSpin 12 = .ok (.aload_n 0, 1) := by decide +kernel
theorem dX4_nextSpin_13 : decode cX4_nextSpin 13 = .ok (.getfield 25, 3) := by decide +kernel
theorem dX4_nextSpin_16 : decode cX4_nextSpin 16 = .ok (.aload_n 0, 1) := by decide +kernel
theorem dX4_nextSpin_17 : decode cX4_nextSpin 17 = .ok (.getfield 9, 3) := by decide +kernel
theorem dX4_nextSpin_20 : decode cX4_nextSpin 20 = .ok (.getfield 45, 3) := by decide +kernel
theorem dX4_nextSpin_23 : decode cX4_nextSpin 23 = .ok (.imul, 1) := by decide +kernel
theorem dX4_nextSpin_24 : decode cX4_nextSpin 24 = .ok (.iload_n 2, 1) := by decide +kernel
theorem dX4_nextSpin_25 : decode cX4_nextSpin 25 = .ok (.aload_n 0, 1) := by decide +kernel
theorem dX4_nextSpin_26 : decode cX4_nextSpin 26 = .ok (.aload_n 1, 1) := by decide +kernel
theorem dX4_nextSpin_27 : decode cX4_nextSpin 27 = .ok (.invokevirtual 52, 3) := by decide +kernel
theorem dX4_nextSpin_30 : decode cX4_nextSpin 30 = .ok (.imul, 1) := by decide +kernel
theorem dX4_nextSpin_31 : decode cX4_nextSpin 31 = .ok (.iadd, 1) := by decide +kernel
theorem dX4_nextSpin_32 : decode cX4_nextSpin 32 = .ok (.istore_n 3, 1) := by decide +kernel
theorem dX4_nextSpin_33 : decode cX4_nextSpin 33 = .ok (.aload_n 0, 1) := by decide +kernel
theorem dX4_nextSpin_34 : decode cX4_nextSpin 34 = .ok (.getfield 9, 3) := by decide +kernel
theorem dX4_nextSpin_37 : decode cX4_nextSpin 37 = .ok (.getfield 45, 3) := by decide +kernel
theorem dX4_nextSpin_40 : decode cX4_nextSpin 40 = .ok (.iconst 4, 1) := by decide +kernel
theorem dX4_nextSpin_41 : decode cX4_nextSpin 41 = .ok (.iadd, 1) := by decide +kernel
theorem dX4_nextSpin_42 : decode cX4_nextSpin 42 = .ok (.aload_n 0, 1) := by decide +kernel
theorem dX4_nextSpin_43 : decode cX4_nextSpin 43 = .ok (.getfield 22, 3) := by decide +kernel
theorem dX4_nextSpin_46 : decode cX4_nextSpin 46 = .ok (.iadd, 1) := by decide +kernel
theorem dX4_nextSpin_47 : decode cX4_nextSpin 47 = .ok (.istore 4, 2) := by decide +kernel
theorem dX4_nextSpin_49 : decode cX4_nextSpin 49 = .ok (.iload 4, 2) := by decide +kernel
theorem dX4_nextSpin_51 : decode cX4_nextSpin 51 = .ok (.ifCond .le 10, 3) := by decide +kernel
theorem dX4_nextSpin_54 : decode cX4_nextSpin 54 = .ok (.iload_n 3, 1) := by decide +kernel
theorem dX4_nextSpin_55 : decode cX4_nextSpin 55 = .ok (.iload 4, 2) := by decide +kernel
theorem dX4_nextSpin_57 : decode cX4_nextSpin 57 = .ok (.idiv, 1) := by decide +kernel
theorem dX4_nextSpin_58 : decode cX4_nextSpin 58 = .ok (.goto 4, 3) := by decide +kernel
theorem dX4_nextSpin_61 : decode cX4_nextSpin 61 = .ok (.iconst 0, 1) := by decide +kernel
theorem dX4_nextSpin_62 : decode cX4_nextSpin 62 = .ok (.istore 5, 2) := by decide +kernel
theorem dX4_nextSpin_64 : decode cX4_nextSpin 64 = .ok (.iload 5, 2) := by decide +kernel
theorem dX4_nextSpin_66 : decode cX4_nextSpin 66 = .ok (.ifCond .ne 8, 3) := by decide +kernel
theorem dX4_nextSpin_69 : decode cX4_nextSpin 69 = .ok (.iload_n 2, 1) := by decide +kernel
theorem dX4_nextSpin_70 : decode cX4_nextSpin 70 = .ok (.invokestatic 84, 3) := by decide +kernel
theorem dX4_nextSpin_73 : decode cX4_nextSpin 73 = .ok (.ireturn, 1) := by decide +kernel
theorem dX4_nextSpin_74 : decode cX4_nextSpin 74 = .ok (.bipush (-8), 2) := by decide +kernel
theorem dX4_nextSpin_76 : decode cX4_nextSpin 76 = .ok (.bipush 8, 2) := by decide +kernel
theorem dX4_nextSpin_78 : decode cX4_nextSpin 78 = .ok (.iload 5, 2) := by decide +kernel
theorem dX4_nextSpin_80 : decode cX4_nextSpin 80 = .ok (.invokestatic 90, 3) := by decide +kernel
theorem dX4_nextSpin_83 : decode cX4_nextSpin 83 = .ok (.invokestatic 64, 3) := by decide +kernel
theorem dX4_nextSpin_86 : decode cX4_nextSpin 86 = .ok (.ireturn, 1) := by decide +kernel
theorem dX4_takeOil_0 : decode cX4_takeOil 0 = .ok (.aload_n 0, 1) := by decide +kernel
theorem dX4_takeOil_1 : decode cX4_takeOil 1 = .ok (.iconst 0, 1) := by decide +kernel
theorem dX4_takeOil_2 : decode cX4_takeOil 2 = .ok (.putfield 22, 3) := by decide +kernel
theorem dX4_takeOil_5 : decode cX4_takeOil 5 = .ok (.aload_n 0, 1) := by decide +kernel
theorem dX4_takeOil_6 : decode cX4_takeOil 6 = .ok (.iconst 0, 1) := by decide +kernel
theorem dX4_takeOil_7 : decode cX4_takeOil 7 = .ok (.putfield 31, 3) := by decide +kernel
theorem dX4_takeOil_10 : decode cX4_takeOil 10 = .ok (.return_, 1) := by decide +kernel
theorem dX4_takeRain_0 : decode cX4_takeRain 0 = .ok (.aload_n 0, 1) := by decide +kernel
theorem dX4_takeRain_1 : decode cX4_takeRain 1 = .ok (.dup, 1) := by decide +kernel
theorem dX4_takeRain_2 : decode cX4_takeRain 2 = .ok (.getfield 31, 3) := by decide +kernel
theorem dX4_takeRain_5 : decode cX4_takeRain 5 = .ok (.iconst 1, 1) := by decide +kernel
theorem dX4_takeRain_6 : decode cX4_takeRain 6 = .ok (.iadd, 1) := by decide +kernel
theorem dX4_takeRain_7 : decode cX4_takeRain 7 = .ok (.putfield 31, 3) := by decide +kernel
theorem dX4_takeRain_10 : decode cX4_takeRain 10 = .ok (.aload_n 0, 1) := by decide +kernel
theorem dX4_takeRain_11 : decode cX4_takeRain 11 = .ok (.getfield 31, 3) := by decide +kernel
theorem dX4_takeRain_14 : decode cX4_takeRain 14 = .ok (.iconst 2, 1) := by decide +kernel
theorem dX4_takeRain_15 : decode cX4_takeRain 15 = .ok (.irem, 1) := by decide +kernel
theorem dX4_takeRain_16 : decode cX4_takeRain 16 = .ok (.iconst 1, 1) := by decide +kernel
theorem dX4_takeRain_17 : decode cX4_takeRain 17 = .ok (.if_icmp .ne 18, 3) := by decide +kernel
theorem dX4_takeRain_20 : decode cX4_takeRain 20 = .ok (.aload_n 0, 1) := by decide +kernel
theorem dX4_takeRain_21 : decode cX4_takeRain 21 = .ok (.bipush 9, 2) := by decide +kernel
theorem dX4_takeRain_23 : decode cX4_takeRain 23 = .ok (.aload_n 0, 1) := by decide +kernel
theorem dX4_takeRain_24 : decode cX4_takeRain 24 = .ok (.getfield 22, 3) := by decide +kernel
theorem dX4_takeRain_27 : decode cX4_takeRain 27 = .ok (.iconst 1, 1) := by decide +kernel
theorem dX4_takeRain_28 : decode cX4_takeRain 28 = .ok (.iadd, 1) := by decide +kernel
theorem dX4_takeRain_29 : decode cX4_takeRain 29 = .ok (.invokestatic 90, 3) := by decide +kernel
theorem dX4_takeRain_32 : decode cX4_takeRain 32 = .ok (.putfield 22, 3) := by decide +kernel
theorem dX4_takeRain_35 : decode cX4_takeRain 35 = .ok (.return_, 1) := by decide +kernel
theorem dX4_takeEffect_0 : decode cX4_takeEffect 0 = .ok (.iload_n 1, 1) := by decide +kernel
theorem dX4_takeEffect_1 : decode cX4_takeEffect 1 = .ok (.iconst 1, 1) := by decide +kernel
theorem dX4_takeEffect_2 : decode cX4_takeEffect 2 = .ok (.if_icmp .ne 15, 3) := by decide +kernel
theorem dX4_takeEffect_5 : decode cX4_takeEffect 5 = .ok (.iload_n 2, 1) := by decide +kernel
theorem dX4_takeEffect_6 : decode cX4_takeEffect 6 = .ok (.iconst 1, 1) := by decide +kernel
theorem dX4_takeEffect_7 : decode cX4_takeEffect 7 = .ok (.if_icmp .ne 10, 3) := by decide +kernel
theorem dX4_takeEffect_10 : decode cX4_takeEffect 10 = .ok (.aload_n 0, 1) := by decide +kernel
theorem dX4_takeEffect_11 : decode cX4_takeEffect 11 = .ok (.invokevirtual 93, 3) := by decide +kernel
theorem dX4_takeEffect_14 : decode cX4_takeEffect 14 = .ok (.goto 52, 3) := by decide +kernel
theorem dX4_takeEffect_17 : decode cX4_takeEffect 17 = .ok (.iload_n 1, 1) := by decide +kernel
theorem dX4_takeEffect_18 : decode cX4_takeEffect 18 = .ok (.iconst 2, 1) := by decide +kernel
theorem dX4_takeEffect_19 : decode cX4_takeEffect 19 = .ok (.if_icmp .ne 23, 3) := by decide +kernel
theorem dX4_takeEffect_22 : decode cX4_takeEffect 22 = .ok (.iload_n 2, 1) := by decide +kernel
theorem dX4_takeEffect_23 : decode cX4_takeEffect 23 = .ok (.iconst (-1), 1) := by decide +kernel
theorem dX4_takeEffect_24 : decode cX4_takeEffect 24 = .ok (.if_icmp .ne 18, 3) := by decide +kernel
theorem dX4_takeEffect_27 : decode cX4_takeEffect 27 = .ok (.aload_n 0, 1) := by decide +kernel
theorem dX4_takeEffect_28 : decode cX4_takeEffect 28 = .ok (.aload_n 0, 1) := by decide +kernel
theorem dX4_takeEffect_29 : decode cX4_takeEffect 29 = .ok (.getfield 28, 3) := by decide +kernel
theorem dX4_takeEffect_32 : decode cX4_takeEffect 32 = .ok (.iconst 4, 1) := by decide +kernel
theorem dX4_takeEffect_33 : decode cX4_takeEffect 33 = .ok (.invokestatic 64, 3) := by decide +kernel
theorem dX4_takeEffect_36 : decode cX4_takeEffect 36 = .ok (.putfield 28, 3) := by decide +kernel
theorem dX4_takeEffect_39 : decode cX4_takeEffect 39 = .ok (.goto 27, 3) := by decide +kernel
theorem dX4_takeEffect_42 : decode cX4_takeEffect 42 = .ok (.iload_n 1, 1) := by decide +kernel
theorem dX4_takeEffect_43 : decode cX4_takeEffect 43 = .ok (.iconst 3, 1) := by decide +kernel
theorem dX4_takeEffect_44 : decode cX4_takeEffect 44 = .ok (.if_icmp .ne 22, 3) := by decide +kernel
theorem dX4_takeEffect_47 : decode cX4_takeEffect 47 = .ok (.aload_n 0, 1) := by decide +kernel
theorem dX4_takeEffect_48 : decode cX4_takeEffect 48 = .ok (.iconst 0, 1) := by decide +kernel
theorem dX4_takeEffect_49 : decode cX4_takeEffect 49 = .ok (.bipush 9, 2) := by decide +kernel
theorem dX4_takeEffect_51 : decode cX4_takeEffect 51 = .ok (.aload_n 0, 1) := by decide +kernel
theorem dX4_takeEffect_52 : decode cX4_takeEffect 52 = .ok (.getfield 15, 3) := by decide +kernel
theorem dX4_takeEffect_55 : decode cX4_takeEffect 55 = .ok (.iload_n 2, 1) := by decide +kernel
theorem dX4_takeEffect_56 : decode cX4_takeEffect 56 = .ok (.iadd, 1) := by decide +kernel
theorem dX4_takeEffect_57 : decode cX4_takeEffect 57 = .ok (.invokestatic 90, 3) := by decide +kernel
theorem dX4_takeEffect_60 : decode cX4_takeEffect 60 = .ok (.invokestatic 64, 3) := by decide +kernel
theorem dX4_takeEffect_63 : decode cX4_takeEffect 63 = .ok (.putfield 15, 3) := by decide +kernel
theorem dX4_takeEffect_66 : decode cX4_takeEffect 66 = .ok (.return_, 1) := by decide +kernel
theorem dX5_init_0 : decode cX5_init 0 = .ok (.aload_n 0, 1) := by decide +kernel
theorem dX5_init_1 : decode cX5_init 1 = .ok (.invokespecial 3, 3) := by decide +kernel
theorem dX5_init_4 : decode cX5_init 4 = .ok (.aload_n 0, 1) := by decide +kernel
theorem dX5_init_5 : decode cX5_init 5 = .ok (.iload_n 1, 1) := by decide +kernel
theorem dX5_init_6 : decode cX5_init 6 = .ok (.putfield 9, 3) := by decide +kernel
theorem dX5_init_9 : decode cX5_init 9 = .ok (.aload_n 0, 1) := by decide +kernel
theorem dX5_init_10 : decode cX5_init 10 = .ok (.iload_n 2, 1) := by decide +kernel
theorem dX5_init_11 : decode cX5_init 11 = .ok (.putfield 15, 3) := by decide +kernel
theorem dX5_init_14 : decode cX5_init 14 = .ok (.aload_n 0, 1) := by decide +kernel
theorem dX5_init_15 : decode cX5_init 15 = .ok (.iload_n 3, 1) := by decide +kernel
theorem dX5_init_16 : decode cX5_init 16 = .ok (.putfield 18, 3) := by decide +kernel
theorem dX5_init_19 : decode cX5_init 19 = .ok (.return_, 1) := by decide +kernel
theorem dX5_tell_0 : decode cX5_tell 0 = .ok (.iload_n 1, 1) := by decide +kernel
theorem dX5_tell_1 : decode cX5_tell 1 = .ok (.lookupswitch 37 #[(0, 27), (1, 32)], 27) := by decide +kernel
theorem dX5_tell_28 : decode cX5_tell 28 = .ok (.aload_n 0, 1) := by decide +kernel
theorem dX5_tell_29 : decode cX5_tell 29 = .ok (.getfield 9, 3) := by decide +kernel
theorem dX5_tell_32 : decode cX5_tell 32 = .ok (.ireturn, 1) := by decide +kernel
theorem dX5_tell_33 : decode cX5_tell 33 = .ok (.aload_n 0, 1) := by decide +kernel
theorem dX5_tell_34 : decode cX5_tell 34 = .ok (.getfield 15, 3) := by decide +kernel
theorem dX5_tell_37 : decode cX5_tell 37 = .ok (.ireturn, 1) := by decide +kernel
theorem dX5_tell_38 : decode cX5_tell 38 = .ok (.aload_n 0, 1) := by decide +kernel
theorem dX5_tell_39 : decode cX5_tell 39 = .ok (.getfield 18, 3) := by decide +kernel
theorem dX5_tell_42 : decode cX5_tell 42 = .ok (.ifCond .eq 7, 3) := by decide +kernel
theorem dX5_tell_45 : decode cX5_tell 45 = .ok (.iconst 1, 1) := by decide +kernel
theorem dX5_tell_46 : decode cX5_tell 46 = .ok (.goto 4, 3) := by decide +kernel
theorem dX5_tell_49 : decode cX5_tell 49 = .ok (.iconst 0, 1) := by decide +kernel
theorem dX5_tell_50 : decode cX5_tell 50 = .ok (.ireturn, 1) := by decide +kernel
theorem dX5_eighth_0 : decode cX5_eighth 0 = .ok (.aload_n 0, 1) := by decide +kernel
theorem dX5_eighth_1 : decode cX5_eighth 1 = .ok (.getfield 9, 3) := by decide +kernel
theorem dX5_eighth_4 : decode cX5_eighth 4 = .ok (.bipush 8, 2) := by decide +kernel
theorem dX5_eighth_6 : decode cX5_eighth 6 = .ok (.iadd, 1) := by decide +kernel
theorem dX5_eighth_7 : decode cX5_eighth 7 = .ok (.bipush 16, 2) := by decide +kernel
theorem dX5_eighth_9 : decode cX5_eighth 9 = .ok (.irem, 1) := by decide +kernel
theorem dX5_eighth_10 : decode cX5_eighth 10 = .ok (.istore_n 1, 1) := by decide +kernel
theorem dX5_eighth_11 : decode cX5_eighth 11 = .ok (.iload_n 1, 1) := by decide +kernel
theorem dX5_eighth_12 : decode cX5_eighth 12 = .ok (.iconst 1, 1) := by decide +kernel
theorem dX5_eighth_13 : decode cX5_eighth 13 = .ok (.iadd, 1) := by decide +kernel
theorem dX5_eighth_14 : decode cX5_eighth 14 = .ok (.iconst 2, 1) := by decide +kernel
theorem dX5_eighth_15 : decode cX5_eighth 15 = .ok (.idiv, 1) := by decide +kernel
theorem dX5_eighth_16 : decode cX5_eighth 16 = .ok (.bipush 8, 2) := by decide +kernel
theorem dX5_eighth_18 : decode cX5_eighth 18 = .ok (.irem, 1) := by decide +kernel
theorem dX5_eighth_19 : decode cX5_eighth 19 = .ok (.ireturn, 1) := by decide +kernel
theorem dX6_init_0 : decode cX6_init 0 = .ok (.aload_n 0, 1) := by decide +kernel
theorem dX6_init_1 : decode cX6_init 1 = .ok (.invokespecial 1, 3) := by decide +kernel
theorem dX6_init_4 : decode cX6_init 4 = .ok (.aload_n 0, 1) := by decide +kernel
theorem dX6_init_5 : decode cX6_init 5 = .ok (.new 7, 3) := by decide +kernel
theorem dX6_init_8 : decode cX6_init 8 = .ok (.dup, 1) := by decide +kernel
theorem dX6_init_9 : decode cX6_init 9 = .ok (.iconst 0, 1) := by decide +kernel
theorem dX6_init_10 : decode cX6_init 10 = .ok (.iconst 5, 1) := by decide +kernel
theorem dX6_init_11 : decode cX6_init 11 = .ok (.iconst 0, 1) := by decide +kernel
theorem dX6_init_12 : decode cX6_init 12 = .ok (.invokespecial 9, 3) := by decide +kernel
theorem dX6_init_15 : decode cX6_init 15 = .ok (.putfield 12, 3) := by decide +kernel
theorem dX6_init_18 : decode cX6_init 18 = .ok (.aload_n 0, 1) := by decide +kernel
theorem dX6_init_19 : decode cX6_init 19 = .ok (.new 18, 3) := by decide +kernel
theorem dX6_init_22 : decode cX6_init 22 = .ok (.dup, 1) := by decide +kernel
theorem dX6_init_23 : decode cX6_init 23 = .ok (.invokespecial 20, 3) := by decide +kernel
theorem dX6_init_26 : decode cX6_init 26 = .ok (.putfield 21, 3) := by decide +kernel
theorem dX6_init_29 : decode cX6_init 29 = .ok (.aload_n 0, 1) := by decide +kernel
theorem dX6_init_30 : decode cX6_init 30 = .ok (.new 18, 3) := by decide +kernel
theorem dX6_init_33 : decode cX6_init 33 = .ok (.dup, 1) := by decide +kernel
theorem dX6_init_34 : decode cX6_init 34 = .ok (.invokespecial 20, 3) := by decide +kernel
theorem dX6_init_37 : decode cX6_init 37 = .ok (.putfield 25, 3) := by decide +kernel
theorem dX6_init_40 : decode cX6_init 40 = .ok (.aload_n 0, 1) := by decide +kernel
theorem dX6_init_41 : decode cX6_init 41 = .ok (.new 18, 3) := by decide +kernel
theorem dX6_init_44 : decode cX6_init 44 = .ok (.dup, 1) := by decide +kernel
end
section
theorem dX6_init_45 : decode cX6_init 45 = .ok (.invokespecial 20, 3) := by decide +kernel
theorem dX6_init_48 : decode cX6_init 48 = .ok (.putfield 28, 3) := by decide +kernel
theorem dX6_init_51 : decode cX6_init 51 = .ok (.aload_n 0, 1) := by decide +kernel
theorem dX6_init_52 : decode cX6_init 52 = .ok (.new 31, 3) := by decide +kernel
theorem dX6_init_55 : decode cX6_init 55 = .ok (.dup, 1) := by decide +kernel
theorem dX6_init_56 : decode cX6_init 56 = .ok (.invokespecial 33, 3) := by decide +kernel
theorem dX6_init_59 : decode cX6_init 59 = .ok (.putfield 34, 3) := by decide +kernel
theorem dX6_init_62 : decode cX6_init 62 = .ok (.aload_n 0, 1) := by decide +kernel
theorem dX6_init_63 : decode cX6_init 63 = .ok (.new 31, 3) := by decide +kernel
theorem dX6_init_66 : decode cX6_init 66 = .ok (.dup, 1) := by decide +kernel
theorem dX6_init_67 : decode cX6_init 67 = .ok (.invokespecial 33, 3) := by decide +kernel
theorem dX6_init_70 : decode cX6_init 70 = .ok (.putfield 38, 3) := by decide +kernel
theorem dX6_init_73 : decode cX6_init 73 = .ok (.aload_n 0, 1) := by decide +kernel
theorem dX6_init_74 : decode cX6_init 74 = .ok (.getfield 21, 3) := by decide +kernel
theorem dX6_init_77 : decode cX6_init 77 = .ok (.aload_n 0, 1) := by decide +kernel
theorem dX6_init_78 : decode cX6_init 78 = .ok (.getfield 12, 3) := by decide +kernel
theorem dX6_init_81 : decode cX6_init 81 = .ok (.invokevirtual 41, 3) := by decide +kernel
theorem dX6_init_84 : decode cX6_init 84 = .ok (.pop, 1) := by decide +kernel
theorem dX6_init_85 : decode cX6_init 85 = .ok (.return_, 1) := by decide +kernel
theorem dX6_beginWind_0 : decode cX6_beginWind 0 = .ok (.iload_n 1, 1) := by decide +kernel
theorem dX6_beginWind_1 : decode cX6_beginWind 1 = .ok (.invokestatic 45, 3) := by decide +kernel
theorem dX6_beginWind_4 : decode cX6_beginWind 4 = .ok (.ifCond .eq 13, 3) := by decide +kernel
theorem dX6_beginWind_7 : decode cX6_beginWind 7 = .ok (.iload_n 2, 1) := by decide +kernel
theorem dX6_beginWind_8 : decode cX6_beginWind 8 = .ok (.iconst 0, 1) := by decide +kernel
theorem dX6_beginWind_9 : decode cX6_beginWind 9 = .ok (.bipush 9, 2) := by decide +kernel
theorem dX6_beginWind_11 : decode cX6_beginWind 11 = .ok (.invokestatic 49, 3) := by decide +kernel
theorem dX6_beginWind_14 : decode cX6_beginWind 14 = .ok (.ifCond .ne 13, 3) := by decide +kernel
theorem dX6_beginWind_17 : decode cX6_beginWind 17 = .ok (.new 53, 3) := by decide +kernel
theorem dX6_beginWind_20 : decode cX6_beginWind 20 = .ok (.dup, 1) := by decide +kernel
theorem dX6_beginWind_21 : decode cX6_beginWind 21 = .ok (.ldc 55, 2) := by decide +kernel
theorem dX6_beginWind_23 : decode cX6_beginWind 23 = .ok (.invokespecial 57, 3) := by decide +kernel
theorem dX6_beginWind_26 : decode cX6_beginWind 26 = .ok (.athrow, 1) := by decide +kernel
theorem dX6_beginWind_27 : decode cX6_beginWind 27 = .ok (.aload_n 0, 1) := by decide +kernel
theorem dX6_beginWind_28 : decode cX6_beginWind 28 = .ok (.getfield 21, 3) := by decide +kernel
theorem dX6_beginWind_31 : decode cX6_beginWind 31 = .ok (.invokevirtual 60, 3) := by decide +kernel
theorem dX6_beginWind_34 : decode cX6_beginWind 34 = .ok (.istore 4, 2) := by decide +kernel
theorem dX6_beginWind_36 : decode cX6_beginWind 36 = .ok (.aload_n 0, 1) := by decide +kernel
theorem dX6_beginWind_37 : decode cX6_beginWind 37 = .ok (.getfield 21, 3) := by decide +kernel
theorem dX6_beginWind_40 : decode cX6_beginWind 40 = .ok (.invokevirtual 64, 3) := by decide +kernel
theorem dX6_beginWind_43 : decode cX6_beginWind 43 = .ok (.aload_n 0, 1) := by decide +kernel
theorem dX6_beginWind_44 : decode cX6_beginWind 44 = .ok (.getfield 21, 3) := by decide +kernel
theorem dX6_beginWind_47 : decode cX6_beginWind 47 = .ok (.new 7, 3) := by decide +kernel
theorem dX6_beginWind_50 : decode cX6_beginWind 50 = .ok (.dup, 1) := by decide +kernel
theorem dX6_beginWind_51 : decode cX6_beginWind 51 = .ok (.iload_n 1, 1) := by decide +kernel
theorem dX6_beginWind_52 : decode cX6_beginWind 52 = .ok (.iload_n 2, 1) := by decide +kernel
theorem dX6_beginWind_53 : decode cX6_beginWind 53 = .ok (.iload_n 3, 1) := by decide +kernel
theorem dX6_beginWind_54 : decode cX6_beginWind 54 = .ok (.invokespecial 9, 3) := by decide +kernel
theorem dX6_beginWind_57 : decode cX6_beginWind 57 = .ok (.invokevirtual 41, 3) := by decide +kernel
theorem dX6_beginWind_60 : decode cX6_beginWind 60 = .ok (.pop, 1) := by decide +kernel
theorem dX6_beginWind_61 : decode cX6_beginWind 61 = .ok (.iload 4, 2) := by decide +kernel
theorem dX6_beginWind_63 : decode cX6_beginWind 63 = .ok (.ireturn, 1) := by decide +kernel
theorem dX6_addWind_0 : decode cX6_addWind 0 = .ok (.iload_n 1, 1) := by decide +kernel
theorem dX6_addWind_1 : decode cX6_addWind 1 = .ok (.invokestatic 45, 3) := by decide +kernel
theorem dX6_addWind_4 : decode cX6_addWind 4 = .ok (.ifCond .eq 13, 3) := by decide +kernel
theorem dX6_addWind_7 : decode cX6_addWind 7 = .ok (.iload_n 2, 1) := by decide +kernel
theorem dX6_addWind_8 : decode cX6_addWind 8 = .ok (.iconst 0, 1) := by decide +kernel
theorem dX6_addWind_9 : decode cX6_addWind 9 = .ok (.bipush 9, 2) := by decide +kernel
theorem dX6_addWind_11 : decode cX6_addWind 11 = .ok (.invokestatic 49, 3) := by decide +kernel
theorem dX6_addWind_14 : decode cX6_addWind 14 = .ok (.ifCond .ne 13, 3) := by decide +kernel
theorem dX6_addWind_17 : decode cX6_addWind 17 = .ok (.new 53, 3) := by decide +kernel
theorem dX6_addWind_20 : decode cX6_addWind 20 = .ok (.dup, 1) := by decide +kernel
theorem dX6_addWind_21 : decode cX6_addWind 21 = .ok (.ldc 55, 2) := by decide +kernel
theorem dX6_addWind_23 : decode cX6_addWind 23 = .ok (.invokespecial 57, 3) := by decide +kernel
theorem dX6_addWind_26 : decode cX6_addWind 26 = .ok (.athrow, 1) := by decide +kernel
theorem dX6_addWind_27 : decode cX6_addWind 27 = .ok (.aload_n 0, 1) := by decide +kernel
theorem dX6_addWind_28 : decode cX6_addWind 28 = .ok (.getfield 21, 3) := by decide +kernel
theorem dX6_addWind_31 : decode cX6_addWind 31 = .ok (.invokevirtual 60, 3) := by decide +kernel
theorem dX6_addWind_34 : decode cX6_addWind 34 = .ok (.bipush 24, 2) := by decide +kernel
theorem dX6_addWind_36 : decode cX6_addWind 36 = .ok (.if_icmp .lt 13, 3) := by decide +kernel
theorem dX6_addWind_39 : decode cX6_addWind 39 = .ok (.new 67, 3) := by decide +kernel
theorem dX6_addWind_42 : decode cX6_addWind 42 = .ok (.dup, 1) := by decide +kernel
theorem dX6_addWind_43 : decode cX6_addWind 43 = .ok (.ldc 69, 2) := by decide +kernel
theorem dX6_addWind_45 : decode cX6_addWind 45 = .ok (.invokespecial 71, 3) := by decide +kernel
theorem dX6_addWind_48 : decode cX6_addWind 48 = .ok (.athrow, 1) := by decide +kernel
theorem dX6_addWind_49 : decode cX6_addWind 49 = .ok (.aload_n 0, 1) := by decide +kernel
theorem dX6_addWind_50 : decode cX6_addWind 50 = .ok (.getfield 21, 3) := by decide +kernel
theorem dX6_addWind_53 : decode cX6_addWind 53 = .ok (.new 7, 3) := by decide +kernel
theorem dX6_addWind_56 : decode cX6_addWind 56 = .ok (.dup, 1) := by decide +kernel
theorem dX6_addWind_57 : decode cX6_addWind 57 = .ok (.iload_n 1, 1) := by decide +kernel
theorem dX6_addWind_58 : decode cX6_addWind 58 = .ok (.iload_n 2, 1) := by decide +kernel
theorem dX6_addWind_59 : decode cX6_addWind 59 = .ok (.iload_n 3, 1) := by decide +kernel
theorem dX6_addWind_60 : decode cX6_addWind 60 = .ok (.invokespecial 9, 3) := by decide +kernel
theorem dX6_addWind_63 : decode cX6_addWind 63 = .ok (.invokevirtual 41, 3) := by decide +kernel
theorem dX6_addWind_66 : decode cX6_addWind 66 = .ok (.pop, 1) := by decide +kernel
theorem dX6_addWind_67 : decode cX6_addWind 67 = .ok (.aload_n 0, 1) := by decide +kernel
theorem dX6_addWind_68 : decode cX6_addWind 68 = .ok (.getfield 21, 3) := by decide +kernel
theorem dX6_addWind_71 : decode cX6_addWind 71 = .ok (.invokevirtual 60, 3) := by decide +kernel
theorem dX6_addWind_74 : decode cX6_addWind 74 = .ok (.ireturn, 1) := by decide +kernel
theorem dX6_wind_0 : decode cX6_wind 0 = .ok (.iload_n 1, 1) := by decide +kernel
theorem dX6_wind_1 : decode cX6_wind 1 = .ok (.ifCond .ge 13, 3) := by decide +kernel
theorem dX6_wind_4 : decode cX6_wind 4 = .ok (.new 53, 3) := by decide +kernel
theorem dX6_wind_7 : decode cX6_wind 7 = .ok (.dup, 1) := by decide +kernel
theorem dX6_wind_8 : decode cX6_wind 8 = .ok (.ldc 72, 2) := by decide +kernel
theorem dX6_wind_10 : decode cX6_wind 10 = .ok (.invokespecial 57, 3) := by decide +kernel
theorem dX6_wind_13 : decode cX6_wind 13 = .ok (.athrow, 1) := by decide +kernel
theorem dX6_wind_14 : decode cX6_wind 14 = .ok (.iload_n 2, 1) := by decide +kernel
theorem dX6_wind_15 : decode cX6_wind 15 = .ok (.iconst 0, 1) := by decide +kernel
theorem dX6_wind_16 : decode cX6_wind 16 = .ok (.iconst 2, 1) := by decide +kernel
theorem dX6_wind_17 : decode cX6_wind 17 = .ok (.invokestatic 49, 3) := by decide +kernel
theorem dX6_wind_20 : decode cX6_wind 20 = .ok (.ifCond .ne 13, 3) := by decide +kernel
theorem dX6_wind_23 : decode cX6_wind 23 = .ok (.new 74, 3) := by decide +kernel
theorem dX6_wind_26 : decode cX6_wind 26 = .ok (.dup, 1) := by decide +kernel
theorem dX6_wind_27 : decode cX6_wind 27 = .ok (.ldc 76, 2) := by decide +kernel
theorem dX6_wind_29 : decode cX6_wind 29 = .ok (.invokespecial 78, 3) := by decide +kernel
theorem dX6_wind_32 : decode cX6_wind 32 = .ok (.athrow, 1) := by decide +kernel
theorem dX6_wind_33 : decode cX6_wind 33 = .ok (.aload_n 0, 1) := by decide +kernel
theorem dX6_wind_34 : decode cX6_wind 34 = .ok (.iload_n 1, 1) := by decide +kernel
theorem dX6_wind_35 : decode cX6_wind 35 = .ok (.invokevirtual 79, 3) := by decide +kernel
theorem dX6_wind_38 : decode cX6_wind 38 = .ok (.iload_n 2, 1) := by decide +kernel
theorem dX6_wind_39 : decode cX6_wind 39 = .ok (.invokevirtual 83, 3) := by decide +kernel
theorem dX6_wind_42 : decode cX6_wind 42 = .ok (.ireturn, 1) := by decide +kernel
theorem dX6_setUp_0 : decode cX6_setUp 0 = .ok (.iload_n 1, 1) := by decide +kernel
theorem dX6_setUp_1 : decode cX6_setUp 1 = .ok (.iconst 0, 1) := by decide +kernel
theorem dX6_setUp_2 : decode cX6_setUp 2 = .ok (.bipush 11, 2) := by decide +kernel
theorem dX6_setUp_4 : decode cX6_setUp 4 = .ok (.invokestatic 49, 3) := by decide +kernel
theorem dX6_setUp_7 : decode cX6_setUp 7 = .ok (.ifCond .eq 13, 3) := by decide +kernel
theorem dX6_setUp_10 : decode cX6_setUp 10 = .ok (.iload_n 2, 1) := by decide +kernel
theorem dX6_setUp_11 : decode cX6_setUp 11 = .ok (.iconst 0, 1) := by decide +kernel
theorem dX6_setUp_12 : decode cX6_setUp 12 = .ok (.bipush 11, 2) := by decide +kernel
theorem dX6_setUp_14 : decode cX6_setUp 14 = .ok (.invokestatic 49, 3) := by decide +kernel
theorem dX6_setUp_17 : decode cX6_setUp 17 = .ok (.ifCond .ne 13, 3) := by decide +kernel
theorem dX6_setUp_20 : decode cX6_setUp 20 = .ok (.new 53, 3) := by decide +kernel
theorem dX6_setUp_23 : decode cX6_setUp 23 = .ok (.dup, 1) := by decide +kernel
theorem dX6_setUp_24 : decode cX6_setUp 24 = .ok (.ldc 87, 2) := by decide +kernel
theorem dX6_setUp_26 : decode cX6_setUp 26 = .ok (.invokespecial 57, 3) := by decide +kernel
theorem dX6_setUp_29 : decode cX6_setUp 29 = .ok (.athrow, 1) := by decide +kernel
theorem dX6_setUp_30 : decode cX6_setUp 30 = .ok (.iload_n 3, 1) := by decide +kernel
theorem dX6_setUp_31 : decode cX6_setUp 31 = .ok (.iconst 1, 1) := by decide +kernel
theorem dX6_setUp_32 : decode cX6_setUp 32 = .ok (.bipush 9, 2) := by decide +kernel
theorem dX6_setUp_34 : decode cX6_setUp 34 = .ok (.invokestatic 49, 3) := by decide +kernel
theorem dX6_setUp_37 : decode cX6_setUp 37 = .ok (.ifCond .eq 33, 3) := by decide +kernel
theorem dX6_setUp_40 : decode cX6_setUp 40 = .ok (.iload 4, 2) := by decide +kernel
theorem dX6_setUp_42 : decode cX6_setUp 42 = .ok (.iconst 1, 1) := by decide +kernel
theorem dX6_setUp_43 : decode cX6_setUp 43 = .ok (.bipush 9, 2) := by decide +kernel
theorem dX6_setUp_45 : decode cX6_setUp 45 = .ok (.invokestatic 49, 3) := by decide +kernel
theorem dX6_setUp_48 : decode cX6_setUp 48 = .ok (.ifCond .eq 22, 3) := by decide +kernel
theorem dX6_setUp_51 : decode cX6_setUp 51 = .ok (.iload 5, 2) := by decide +kernel
theorem dX6_setUp_53 : decode cX6_setUp 53 = .ok (.iconst 0, 1) := by decide +kernel
theorem dX6_setUp_54 : decode cX6_setUp 54 = .ok (.bipush 9, 2) := by decide +kernel
theorem dX6_setUp_56 : decode cX6_setUp 56 = .ok (.invokestatic 49, 3) := by decide +kernel
theorem dX6_setUp_59 : decode cX6_setUp 59 = .ok (.ifCond .eq 11, 3) := by decide +kernel
theorem dX6_setUp_62 : decode cX6_setUp 62 = .ok (.iload 6, 2) := by decide +kernel
theorem dX6_setUp_64 : decode cX6_setUp 64 = .ok (.invokestatic 45, 3) := by decide +kernel
theorem dX6_setUp_67 : decode cX6_setUp 67 = .ok (.ifCond .ne 13, 3) := by decide +kernel
theorem dX6_setUp_70 : decode cX6_setUp 70 = .ok (.new 53, 3) := by decide +kernel
theorem dX6_setUp_73 : decode cX6_setUp 73 = .ok (.dup, 1) := by decide +kernel
theorem dX6_setUp_74 : decode cX6_setUp 74 = .ok (.ldc 89, 2) := by decide +kernel
theorem dX6_setUp_76 : decode cX6_setUp 76 = .ok (.invokespecial 57, 3) := by decide +kernel
theorem dX6_setUp_79 : decode cX6_setUp 79 = .ok (.athrow, 1) := by decide +kernel
theorem dX6_setUp_80 : decode cX6_setUp 80 = .ok (.aload_n 0, 1) := by decide +kernel
theorem dX6_setUp_81 : decode cX6_setUp 81 = .ok (.getfield 34, 3) := by decide +kernel
theorem dX6_setUp_84 : decode cX6_setUp 84 = .ok (.iload_n 1, 1) := by decide +kernel
theorem dX6_setUp_85 : decode cX6_setUp 85 = .ok (.iload_n 2, 1) := by decide +kernel
theorem dX6_setUp_86 : decode cX6_setUp 86 = .ok (.invokevirtual 91, 3) := by decide +kernel
theorem dX6_setUp_89 : decode cX6_setUp 89 = .ok (.ifCond .ne 18, 3) := by decide +kernel
theorem dX6_setUp_92 : decode cX6_setUp 92 = .ok (.aload_n 0, 1) := by decide +kernel
theorem dX6_setUp_93 : decode cX6_setUp 93 = .ok (.getfield 34, 3) := by decide +kernel
theorem dX6_setUp_96 : decode cX6_setUp 96 = .ok (.getfield 95, 3) := by decide +kernel
theorem dX6_setUp_99 : decode cX6_setUp 99 = .ok (.invokevirtual 60, 3) := by decide +kernel
theorem dX6_setUp_102 : decode cX6_setUp 102 = .ok (.bipush 16, 2) := by decide +kernel
theorem dX6_setUp_104 : decode cX6_setUp 104 = .ok (.if_icmp .lt 13, 3) := by decide +kernel
theorem dX6_setUp_107 : decode cX6_setUp 107 = .ok (.new 67, 3) := by decide +kernel
theorem dX6_setUp_110 : decode cX6_setUp 110 = .ok (.dup, 1) := by decide +kernel
theorem dX6_setUp_111 : decode cX6_setUp 111 = .ok (.ldc 98, 2) := by decide +kernel
theorem dX6_setUp_113 : decode cX6_setUp 113 = .ok (.invokespecial 71, 3) := by decide +kernel
theorem dX6_setUp_116 : decode cX6_setUp 116 = .ok (.athrow, 1) := by decide +kernel
theorem dX6_setUp_117 : decode cX6_setUp 117 = .ok (.new 100, 3) := by decide +kernel
theorem dX6_setUp_120 : decode cX6_setUp 120 = .ok (.dup, 1) := by decide +kernel
theorem dX6_setUp_121 : decode cX6_setUp 121 = .ok (.iload_n 1, 1) := by decide +kernel
theorem dX6_setUp_122 : decode cX6_setUp 122 = .ok (.iload_n 2, 1) := by decide +kernel
theorem dX6_setUp_123 : decode cX6_setUp 123 = .ok (.iload_n 3, 1) := by decide +kernel
theorem dX6_setUp_124 : decode cX6_setUp 124 = .ok (.iload 4, 2) := by decide +kernel
theorem dX6_setUp_126 : decode cX6_setUp 126 = .ok (.invokespecial 102, 3) := by decide +kernel
theorem dX6_setUp_129 : decode cX6_setUp 129 = .ok (.astore 7, 2) := by decide +kernel
theorem dX6_setUp_131 : decode cX6_setUp 131 = .ok (.aload_n 0, 1) := by decide +kernel
theorem dX6_setUp_132 : decode cX6_setUp 132 = .ok (.getfield 34, 3) := by decide +kernel
theorem dX6_setUp_135 : decode cX6_setUp 135 = .ok (.aload 7, 2) := by decide +kernel
theorem dX6_setUp_137 : decode cX6_setUp 137 = .ok (.invokevirtual 105, 3) := by decide +kernel
theorem dX6_setUp_140 : decode cX6_setUp 140 = .ok (.aload_n 0, 1) := by decide +kernel
theorem dX6_setUp_141 : decode cX6_setUp 141 = .ok (.getfield 34, 3) := by decide +kernel
theorem dX6_setUp_144 : decode cX6_setUp 144 = .ok (.getfield 95, 3) := by decide +kernel
theorem dX6_setUp_147 : decode cX6_setUp 147 = .ok (.new 109, 3) := by decide +kernel
theorem dX6_setUp_150 : decode cX6_setUp 150 = .ok (.dup, 1) := by decide +kernel
theorem dX6_setUp_151 : decode cX6_setUp 151 = .ok (.aload 7, 2) := by decide +kernel
theorem dX6_setUp_153 : decode cX6_setUp 153 = .ok (.iload 5, 2) := by decide +kernel
theorem dX6_setUp_155 : decode cX6_setUp 155 = .ok (.iload 6, 2) := by decide +kernel
theorem dX6_setUp_157 : decode cX6_setUp 157 = .ok (.invokespecial 111, 3) := by decide +kernel
theorem dX6_setUp_160 : decode cX6_setUp 160 = .ok (.invokevirtual 41, 3) := by decide +kernel
theorem dX6_setUp_163 : decode cX6_setUp 163 = .ok (.pop, 1) := by decide +kernel
theorem dX6_setUp_164 : decode cX6_setUp 164 = .ok (.aload_n 0, 1) := by decide +kernel
theorem dX6_setUp_165 : decode cX6_setUp 165 = .ok (.getfield 38, 3) := by decide +kernel
theorem dX6_setUp_168 : decode cX6_setUp 168 = .ok (.getfield 95, 3) := by decide +kernel
theorem dX6_setUp_171 : decode cX6_setUp 171 = .ok (.new 109, 3) := by decide +kernel
theorem dX6_setUp_174 : decode cX6_setUp 174 = .ok (.dup, 1) := by decide +kernel
theorem dX6_setUp_175 : decode cX6_setUp 175 = .ok (.aload 7, 2) := by decide +kernel
theorem dX6_setUp_177 : decode cX6_setUp 177 = .ok (.iload 5, 2) := by decide +kernel
theorem dX6_setUp_179 : decode cX6_setUp 179 = .ok (.iload 6, 2) := by decide +kernel
theorem dX6_setUp_181 : decode cX6_setUp 181 = .ok (.invokespecial 111, 3) := by decide +kernel
theorem dX6_setUp_184 : decode cX6_setUp 184 = .ok (.invokevirtual 41, 3) := by decide +kernel
theorem dX6_setUp_187 : decode cX6_setUp 187 = .ok (.pop, 1) := by decide +kernel
theorem dX6_setUp_188 : decode cX6_setUp 188 = .ok (.aload_n 0, 1) := by decide +kernel
theorem dX6_setUp_189 : decode cX6_setUp 189 = .ok (.getfield 34, 3) := by decide +kernel
theorem dX6_setUp_192 : decode cX6_setUp 192 = .ok (.getfield 95, 3) := by decide +kernel
theorem dX6_setUp_195 : decode cX6_setUp 195 = .ok (.invokevirtual 60, 3) := by decide +kernel
theorem dX6_setUp_198 : decode cX6_setUp 198 = .ok (.iconst 1, 1) := by decide +kernel
theorem dX6_setUp_199 : decode cX6_setUp 199 = .ok (.isub, 1) := by decide +kernel
theorem dX6_setUp_200 : decode cX6_setUp 200 = .ok (.ireturn, 1) := by decide +kernel
theorem dX6_oil_0 : decode cX6_oil 0 = .ok (.aload_n 0, 1) := by decide +kernel
theorem dX6_oil_1 : decode cX6_oil 1 = .ok (.iload_n 1, 1) := by decide +kernel
theorem dX6_oil_2 : decode cX6_oil 2 = .ok (.invokevirtual 114, 3) := by decide +kernel
theorem dX6_oil_5 : decode cX6_oil 5 = .ok (.ifCond .ne 13, 3) := by decide +kernel
theorem dX6_oil_8 : decode cX6_oil 8 = .ok (.new 74, 3) := by decide +kernel
theorem dX6_oil_11 : decode cX6_oil 11 = .ok (.dup, 1) := by decide +kernel
theorem dX6_oil_12 : decode cX6_oil 12 = .ok (.ldc 117, 2) := by decide +kernel
theorem dX6_oil_14 : decode cX6_oil 14 = .ok (.invokespecial 78, 3) := by decide +kernel
theorem dX6_oil_17 : decode cX6_oil 17 = .ok (.athrow, 1) := by decide +kernel
theorem dX6_oil_18 : decode cX6_oil 18 = .ok (.aload_n 0, 1) := by decide +kernel
theorem dX6_oil_19 : decode cX6_oil 19 = .ok (.getfield 34, 3) := by decide +kernel
theorem dX6_oil_22 : decode cX6_oil 22 = .ok (.getfield 95, 3) := by decide +kernel
theorem dX6_oil_25 : decode cX6_oil 25 = .ok (.iload_n 1, 1) := by decide +kernel
theorem dX6_oil_26 : decode cX6_oil 26 = .ok (.invokevirtual 119, 3) := by decide +kernel
theorem dX6_oil_29 : decode cX6_oil 29 = .ok (.checkcast 109, 3) := by decide +kernel
theorem dX6_oil_32 : decode cX6_oil 32 = .ok (.astore_n 2, 1) := by decide +kernel
theorem dX6_oil_33 : decode cX6_oil 33 = .ok (.aload_n 2, 1) := by decide +kernel
theorem dX6_oil_34 : decode cX6_oil 34 = .ok (.getfield 123, 3) := by decide +kernel
theorem dX6_oil_37 : decode cX6_oil 37 = .ok (.istore_n 3, 1) := by decide +kernel
theorem dX6_oil_38 : decode cX6_oil 38 = .ok (.aload_n 2, 1) := by decide +kernel
theorem dX6_oil_39 : decode cX6_oil 39 = .ok (.invokevirtual 127, 3) := by decide +kernel
theorem dX6_oil_42 : decode cX6_oil 42 = .ok (.iload_n 3, 1) := by decide +kernel
theorem dX6_oil_43 : decode cX6_oil 43 = .ok (.ireturn, 1) := by decide +kernel
theorem dX6_turn_0 : decode cX6_turn 0 = .ok (.aload_n 0, 1) := by decide +kernel
theorem dX6_turn_1 : decode cX6_turn 1 = .ok (.iload_n 1, 1) := by decide +kernel
theorem dX6_turn_2 : decode cX6_turn 2 = .ok (.invokevirtual 114, 3) := by decide +kernel
theorem dX6_turn_5 : decode cX6_turn 5 = .ok (.ifCond .ne 13, 3) := by decide +kernel
theorem dX6_turn_8 : decode cX6_turn 8 = .ok (.new 74, 3) := by decide +kernel
theorem dX6_turn_11 : decode cX6_turn 11 = .ok (.dup, 1) := by decide +kernel
theorem dX6_turn_12 : decode cX6_turn 12 = .ok (.ldc 117, 2) := by decide +kernel
theorem dX6_turn_14 : decode cX6_turn 14 = .ok (.invokespecial 78, 3) := by decide +kernel
theorem dX6_turn_17 : decode cX6_turn 17 = .ok (.athrow, 1) := by decide +kernel
theorem dX6_turn_18 : decode cX6_turn 18 = .ok (.iload_n 2, 1) := by decide +kernel
theorem dX6_turn_19 : decode cX6_turn 19 = .ok (.invokestatic 45, 3) := by decide +kernel
theorem dX6_turn_22 : decode cX6_turn 22 = .ok (.ifCond .ne 13, 3) := by decide +kernel
theorem dX6_turn_25 : decode cX6_turn 25 = .ok (.new 53, 3) := by decide +kernel
theorem dX6_turn_28 : decode cX6_turn 28 = .ok (.dup, 1) := by decide +kernel
theorem dX6_turn_29 : decode cX6_turn 29 = .ok (.ldc 130, 2) := by decide +kernel
theorem dX6_turn_31 : decode cX6_turn 31 = .ok (.invokespecial 57, 3) := by decide +kernel
theorem dX6_turn_34 : decode cX6_turn 34 = .ok (.athrow, 1) := by decide +kernel
theorem dX6_turn_35 : decode cX6_turn 35 = .ok (.aload_n 0, 1) := by decide +kernel
theorem dX6_turn_36 : decode cX6_turn 36 = .ok (.getfield 34, 3) := by decide +kernel
theorem dX6_turn_39 : decode cX6_turn 39 = .ok (.getfield 95, 3) := by decide +kernel
theorem dX6_turn_42 : decode cX6_turn 42 = .ok (.iload_n 1, 1) := by decide +kernel
theorem dX6_turn_43 : decode cX6_turn 43 = .ok (.invokevirtual 119, 3) := by decide +kernel
theorem dX6_turn_46 : decode cX6_turn 46 = .ok (.checkcast 109, 3) := by decide +kernel
theorem dX6_turn_49 : decode cX6_turn 49 = .ok (.astore_n 3, 1) := by decide +kernel
theorem dX6_turn_50 : decode cX6_turn 50 = .ok (.aload_n 3, 1) := by decide +kernel
theorem dX6_turn_51 : decode cX6_turn 51 = .ok (.getfield 132, 3) := by decide +kernel
theorem dX6_turn_54 : decode cX6_turn 54 = .ok (.ifCond .le 13, 3) := by decide +kernel
theorem dX6_turn_57 : decode cX6_turn 57 = .ok (.new 67, 3) := by decide +kernel
theorem dX6_turn_60 : decode cX6_turn 60 = .ok (.dup, 1) := by decide +kernel
theorem dX6_turn_61 : decode cX6_turn 61 = .ok (.ldc 135, 2) := by decide +kernel
theorem dX6_turn_63 : decode cX6_turn 63 = .ok (.invokespecial 71, 3) := by decide +kernel
theorem dX6_turn_66 : decode cX6_turn 66 = .ok (.athrow, 1) := by decide +kernel
theorem dX6_turn_67 : decode cX6_turn 67 = .ok (.aload_n 3, 1) := by decide +kernel
theorem dX6_turn_68 : decode cX6_turn 68 = .ok (.getfield 137, 3) := by decide +kernel
theorem dX6_turn_71 : decode cX6_turn 71 = .ok (.istore 4, 2) := by decide +kernel
theorem dX6_turn_73 : decode cX6_turn 73 = .ok (.aload_n 3, 1) := by decide +kernel
theorem dX6_turn_74 : decode cX6_turn 74 = .ok (.iload_n 2, 1) := by decide +kernel
theorem dX6_turn_75 : decode cX6_turn 75 = .ok (.putfield 137, 3) := by decide +kernel
theorem dX6_turn_78 : decode cX6_turn 78 = .ok (.aload_n 3, 1) := by decide +kernel
theorem dX6_turn_79 : decode cX6_turn 79 = .ok (.iconst 0, 1) := by decide +kernel
theorem dX6_turn_80 : decode cX6_turn 80 = .ok (.putfield 140, 3) := by decide +kernel
theorem dX6_turn_83 : decode cX6_turn 83 = .ok (.iload 4, 2) := by decide +kernel
theorem dX6_turn_85 : decode cX6_turn 85 = .ok (.ireturn, 1) := by decide +kernel
theorem dX6_vane_0 : decode cX6_vane 0 = .ok (.aload_n 0, 1) := by decide +kernel
theorem dX6_vane_1 : decode cX6_vane 1 = .ok (.iload_n 1, 1) := by decide +kernel
theorem dX6_vane_2 : decode cX6_vane 2 = .ok (.invokevirtual 114, 3) := by decide +kernel
theorem dX6_vane_5 : decode cX6_vane 5 = .ok (.ifCond .ne 13, 3) := by decide +kernel
theorem dX6_vane_8 : decode cX6_vane 8 = .ok (.new 74, 3) := by decide +kernel
theorem dX6_vane_11 : decode cX6_vane 11 = .ok (.dup, 1) := by decide +kernel
theorem dX6_vane_12 : decode cX6_vane 12 = .ok (.ldc 117, 2) := by decide +kernel
theorem dX6_vane_14 : decode cX6_vane 14 = .ok (.invokespecial 78, 3) := by decide +kernel
theorem dX6_vane_17 : decode cX6_vane 17 = .ok (.athrow, 1) := by decide +kernel
theorem dX6_vane_18 : decode cX6_vane 18 = .ok (.iload_n 2, 1) := by decide +kernel
theorem dX6_vane_19 : decode cX6_vane 19 = .ok (.iconst 0, 1) := by decide +kernel
theorem dX6_vane_20 : decode cX6_vane 20 = .ok (.bipush 11, 2) := by decide +kernel
theorem dX6_vane_22 : decode cX6_vane 22 = .ok (.invokestatic 49, 3) := by decide +kernel
theorem dX6_vane_25 : decode cX6_vane 25 = .ok (.ifCond .ne 13, 3) := by decide +kernel
theorem dX6_vane_28 : decode cX6_vane 28 = .ok (.new 74, 3) := by decide +kernel
theorem dX6_vane_31 : decode cX6_vane 31 = .ok (.dup, 1) := by decide +kernel
theorem dX6_vane_32 : decode cX6_vane 32 = .ok (.ldc 143, 2) := by decide +kernel
theorem dX6_vane_34 : decode cX6_vane 34 = .ok (.invokespecial 78, 3) := by decide +kernel
theorem dX6_vane_37 : decode cX6_vane 37 = .ok (.athrow, 1) := by decide +kernel
theorem dX6_vane_38 : decode cX6_vane 38 = .ok (.aload_n 0, 1) := by decide +kernel
theorem dX6_vane_39 : decode cX6_vane 39 = .ok (.getfield 34, 3) := by decide +kernel
theorem dX6_vane_42 : decode cX6_vane 42 = .ok (.getfield 95, 3) := by decide +kernel
theorem dX6_vane_45 : decode cX6_vane 45 = .ok (.iload_n 1, 1) := by decide +kernel
theorem dX6_vane_46 : decode cX6_vane 46 = .ok (.invokevirtual 119, 3) := by decide +kernel
theorem dX6_vane_49 : decode cX6_vane 49 = .ok (.checkcast 109, 3) := by decide +kernel
theorem dX6_vane_52 : decode cX6_vane 52 = .ok (.iload_n 2, 1) := by decide +kernel
theorem dX6_vane_53 : decode cX6_vane 53 = .ok (.aload_n 0, 1) := by decide +kernel
theorem dX6_vane_54 : decode cX6_vane 54 = .ok (.aload_n 0, 1) := by decide +kernel
theorem dX6_vane_55 : decode cX6_vane 55 = .ok (.getfield 145, 3) := by decide +kernel
theorem dX6_vane_58 : decode cX6_vane 58 = .ok (.invokevirtual 79, 3) := by decide +kernel
theorem dX6_vane_61 : decode cX6_vane 61 = .ok (.invokevirtual 148, 3) := by decide +kernel
theorem dX6_vane_64 : decode cX6_vane 64 = .ok (.ireturn, 1) := by decide +kernel
theorem dX6_difference_0 : decode cX6_difference 0 = .ok (.iload_n 1, 1) := by decide +kernel
theorem dX6_difference_1 : decode cX6_difference 1 = .ok (.invokestatic 45, 3) := by decide +kernel
theorem dX6_difference_4 : decode cX6_difference 4 = .ok (.ifCond .eq 10, 3) := by decide +kernel
theorem dX6_difference_7 : decode cX6_difference 7 = .ok (.iload_n 2, 1) := by decide +kernel
theorem dX6_difference_8 : decode cX6_difference 8 = .ok (.invokestatic 45, 3) := by decide +kernel
theorem dX6_difference_11 : decode cX6_difference 11 = .ok (.ifCond .ne 13, 3) := by decide +kernel
theorem dX6_difference_14 : decode cX6_difference 14 = .ok (.new 53, 3) := by decide +kernel
theorem dX6_difference_17 : decode cX6_difference 17 = .ok (.dup, 1) := by decide +kernel
theorem dX6_difference_18 : decode cX6_difference 18 = .ok (.ldc 130, 2) := by decide +kernel
theorem dX6_difference_20 : decode cX6_difference 20 = .ok (.invokespecial 57, 3) := by decide +kernel
theorem dX6_difference_23 : decode cX6_difference 23 = .ok (.athrow, 1) := by decide +kernel
theorem dX6_difference_24 : decode cX6_difference 24 = .ok (.iload_n 1, 1) := by decide +kernel
theorem dX6_difference_25 : decode cX6_difference 25 = .ok (.iload_n 2, 1) := by decide +kernel
theorem dX6_difference_26 : decode cX6_difference 26 = .ok (.invokestatic 151, 3) := by decide +kernel
theorem dX6_difference_29 : decode cX6_difference 29 = .ok (.ireturn, 1) := by decide +kernel
theorem dX6_move_0 : decode cX6_move 0 = .ok (.iload_n 1, 1) := by decide +kernel
theorem dX6_move_1 : decode cX6_move 1 = .ok (.invokestatic 45, 3) := by decide +kernel
theorem dX6_move_4 : decode cX6_move 4 = .ok (.ifCond .eq 33, 3) := by decide +kernel
theorem dX6_move_7 : decode cX6_move 7 = .ok (.iload_n 2, 1) := by decide +kernel
theorem dX6_move_8 : decode cX6_move 8 = .ok (.iconst 0, 1) := by decide +kernel
theorem dX6_move_9 : decode cX6_move 9 = .ok (.bipush 7, 2) := by decide +kernel
theorem dX6_move_11 : decode cX6_move 11 = .ok (.invokestatic 49, 3) := by decide +kernel
theorem dX6_move_14 : decode cX6_move 14 = .ok (.ifCond .eq 23, 3) := by decide +kernel
theorem dX6_move_17 : decode cX6_move 17 = .ok (.iload_n 3, 1) := by decide +kernel
theorem dX6_move_18 : decode cX6_move 18 = .ok (.iconst 0, 1) := by decide +kernel
theorem dX6_move_19 : decode cX6_move 19 = .ok (.bipush 99, 2) := by decide +kernel
theorem dX6_move_21 : decode cX6_move 21 = .ok (.invokestatic 49, 3) := by decide +kernel
theorem dX6_move_24 : decode cX6_move 24 = .ok (.ifCond .eq 13, 3) := by decide +kernel
theorem dX6_move_27 : decode cX6_move 27 = .ok (.iload 4, 2) := by decide +kernel
theorem dX6_move_29 : decode cX6_move 29 = .ok (.iconst 0, 1) := by decide +kernel
theorem dX6_move_30 : decode cX6_move 30 = .ok (.iconst 3, 1) := by decide +kernel
theorem dX6_move_31 : decode cX6_move 31 = .ok (.invokestatic 49, 3) := by decide +kernel
theorem dX6_move_34 : decode cX6_move 34 = .ok (.ifCond .ne 13, 3) := by decide +kernel
theorem dX6_move_37 : decode cX6_move 37 = .ok (.new 53, 3) := by decide +kernel
theorem dX6_move_40 : decode cX6_move 40 = .ok (.dup, 1) := by decide +kernel
theorem dX6_move_41 : decode cX6_move 41 = .ok (.ldc 155, 2) := by decide +kernel
theorem dX6_move_43 : decode cX6_move 43 = .ok (.invokespecial 57, 3) := by decide +kernel
theorem dX6_move_46 : decode cX6_move 46 = .ok (.athrow, 1) := by decide +kernel
theorem dX6_move_47 : decode cX6_move 47 = .ok (.aload_n 0, 1) := by decide +kernel
theorem dX6_move_48 : decode cX6_move 48 = .ok (.getfield 25, 3) := by decide +kernel
theorem dX6_move_51 : decode cX6_move 51 = .ok (.invokevirtual 60, 3) := by decide +kernel
theorem dX6_move_54 : decode cX6_move 54 = .ok (.bipush 12, 2) := by decide +kernel
theorem dX6_move_56 : decode cX6_move 56 = .ok (.if_icmp .lt 13, 3) := by decide +kernel
theorem dX6_move_59 : decode cX6_move 59 = .ok (.new 67, 3) := by decide +kernel
theorem dX6_move_62 : decode cX6_move 62 = .ok (.dup, 1) := by decide +kernel
theorem dX6_move_63 : decode cX6_move 63 = .ok (.ldc 157, 2) := by decide +kernel
theorem dX6_move_65 : decode cX6_move 65 = .ok (.invokespecial 71, 3) := by decide +kernel
theorem dX6_move_68 : decode cX6_move 68 = .ok (.athrow, 1) := by decide +kernel
theorem dX6_move_69 : decode cX6_move 69 = .ok (.aload_n 0, 1) := by decide +kernel
theorem dX6_move_70 : decode cX6_move 70 = .ok (.getfield 25, 3) := by decide +kernel
theorem dX6_move_73 : decode cX6_move 73 = .ok (.invokevirtual 60, 3) := by decide +kernel
theorem dX6_move_76 : decode cX6_move 76 = .ok (.istore 5, 2) := by decide +kernel
theorem dX6_move_78 : decode cX6_move 78 = .ok (.aload_n 0, 1) := by decide +kernel
theorem dX6_move_79 : decode cX6_move 79 = .ok (.getfield 25, 3) := by decide +kernel
theorem dX6_move_82 : decode cX6_move 82 = .ok (.new 159, 3) := by decide +kernel
theorem dX6_move_85 : decode cX6_move 85 = .ok (.dup, 1) := by decide +kernel
theorem dX6_move_86 : decode cX6_move 86 = .ok (.iload 5, 2) := by decide +kernel
theorem dX6_move_88 : decode cX6_move 88 = .ok (.iload_n 1, 1) := by decide +kernel
theorem dX6_move_89 : decode cX6_move 89 = .ok (.iload_n 2, 1) := by decide +kernel
theorem dX6_move_90 : decode cX6_move 90 = .ok (.iload_n 3, 1) := by decide +kernel
theorem dX6_move_91 : decode cX6_move 91 = .ok (.iload 4, 2) := by decide +kernel
theorem dX6_move_93 : decode cX6_move 93 = .ok (.invokespecial 161, 3) := by decide +kernel
theorem dX6_move_96 : decode cX6_move 96 = .ok (.invokevirtual 41, 3) := by decide +kernel
theorem dX6_move_99 : decode cX6_move 99 = .ok (.pop, 1) := by decide +kernel
theorem dX6_move_100 : decode cX6_move 100 = .ok (.iload 5, 2) := by decide +kernel
theorem dX6_move_102 : decode cX6_move 102 = .ok (.ireturn, 1) := by decide +kernel
theorem dX6_put_0 : decode cX6_put 0 = .ok (.aload_n 0, 1) := by decide +kernel
theorem dX6_put_1 : decode cX6_put 1 = .ok (.iload_n 1, 1) := by decide +kernel
theorem dX6_put_2 : decode cX6_put 2 = .ok (.invokevirtual 164, 3) := by decide +kernel
theorem dX6_put_5 : decode cX6_put 5 = .ok (.ifCond .ne 13, 3) := by decide +kernel
theorem dX6_put_8 : decode cX6_put 8 = .ok (.new 74, 3) := by decide +kernel
theorem dX6_put_11 : decode cX6_put 11 = .ok (.dup, 1) := by decide +kernel
theorem dX6_put_12 : decode cX6_put 12 = .ok (.ldc 167, 2) := by decide +kernel
theorem dX6_put_14 : decode cX6_put 14 = .ok (.invokespecial 78, 3) := by decide +kernel
theorem dX6_put_17 : decode cX6_put 17 = .ok (.athrow, 1) := by decide +kernel
theorem dX6_put_18 : decode cX6_put 18 = .ok (.iload_n 2, 1) := by decide +kernel
theorem dX6_put_19 : decode cX6_put 19 = .ok (.aload_n 0, 1) := by decide +kernel
theorem dX6_put_20 : decode cX6_put 20 = .ok (.getfield 145, 3) := by decide +kernel
theorem dX6_put_23 : decode cX6_put 23 = .ok (.sipush 2000, 3) := by decide +kernel
theorem dX6_put_26 : decode cX6_put 26 = .ok (.invokestatic 49, 3) := by decide +kernel
theorem dX6_put_29 : decode cX6_put 29 = .ok (.ifCond .ne 13, 3) := by decide +kernel
theorem dX6_put_32 : decode cX6_put 32 = .ok (.new 53, 3) := by decide +kernel
theorem dX6_put_35 : decode cX6_put 35 = .ok (.dup, 1) := by decide +kernel
theorem dX6_put_36 : decode cX6_put 36 = .ok (.ldc 169, 2) := by decide +kernel
theorem dX6_put_38 : decode cX6_put 38 = .ok (.invokespecial 57, 3) := by decide +kernel
theorem dX6_put_41 : decode cX6_put 41 = .ok (.athrow, 1) := by decide +kernel
theorem dX6_put_42 : decode cX6_put 42 = .ok (.aload_n 0, 1) := by decide +kernel
theorem dX6_put_43 : decode cX6_put 43 = .ok (.getfield 28, 3) := by decide +kernel
theorem dX6_put_46 : decode cX6_put 46 = .ok (.invokevirtual 60, 3) := by decide +kernel
theorem dX6_put_49 : decode cX6_put 49 = .ok (.bipush 20, 2) := by decide +kernel
theorem dX6_put_51 : decode cX6_put 51 = .ok (.if_icmp .lt 13, 3) := by decide +kernel
theorem dX6_put_54 : decode cX6_put 54 = .ok (.new 67, 3) := by decide +kernel
theorem dX6_put_57 : decode cX6_put 57 = .ok (.dup, 1) := by decide +kernel
theorem dX6_put_58 : decode cX6_put 58 = .ok (.ldc 171, 2) := by decide +kernel
theorem dX6_put_60 : decode cX6_put 60 = .ok (.invokespecial 71, 3) := by decide +kernel
theorem dX6_put_63 : decode cX6_put 63 = .ok (.athrow, 1) := by decide +kernel
theorem dX6_put_64 : decode cX6_put 64 = .ok (.aload_n 0, 1) := by decide +kernel
theorem dX6_put_65 : decode cX6_put 65 = .ok (.getfield 28, 3) := by decide +kernel
theorem dX6_put_68 : decode cX6_put 68 = .ok (.new 173, 3) := by decide +kernel
theorem dX6_put_71 : decode cX6_put 71 = .ok (.dup, 1) := by decide +kernel
theorem dX6_put_72 : decode cX6_put 72 = .ok (.aload_n 0, 1) := by decide +kernel
theorem dX6_put_73 : decode cX6_put 73 = .ok (.getfield 25, 3) := by decide +kernel
theorem dX6_put_76 : decode cX6_put 76 = .ok (.iload_n 1, 1) := by decide +kernel
theorem dX6_put_77 : decode cX6_put 77 = .ok (.invokevirtual 119, 3) := by decide +kernel
theorem dX6_put_80 : decode cX6_put 80 = .ok (.checkcast 159, 3) := by decide +kernel
theorem dX6_put_83 : decode cX6_put 83 = .ok (.iload_n 2, 1) := by decide +kernel
theorem dX6_put_84 : decode cX6_put 84 = .ok (.invokespecial 175, 3) := by decide +kernel
theorem dX6_put_87 : decode cX6_put 87 = .ok (.invokevirtual 41, 3) := by decide +kernel
theorem dX6_put_90 : decode cX6_put 90 = .ok (.pop, 1) := by decide +kernel
theorem dX6_put_91 : decode cX6_put 91 = .ok (.aload_n 0, 1) := by decide +kernel
theorem dX6_put_92 : decode cX6_put 92 = .ok (.getfield 28, 3) := by decide +kernel
theorem dX6_put_95 : decode cX6_put 95 = .ok (.invokevirtual 60, 3) := by decide +kernel
theorem dX6_put_98 : decode cX6_put 98 = .ok (.ireturn, 1) := by decide +kernel
theorem dX6_motion_0 : decode cX6_motion 0 = .ok (.aload_n 0, 1) := by decide +kernel
theorem dX6_motion_1 : decode cX6_motion 1 = .ok (.iload_n 1, 1) := by decide +kernel
theorem dX6_motion_2 : decode cX6_motion 2 = .ok (.invokevirtual 164, 3) := by decide +kernel
theorem dX6_motion_5 : decode cX6_motion 5 = .ok (.ifCond .ne 13, 3) := by decide +kernel
theorem dX6_motion_8 : decode cX6_motion 8 = .ok (.new 74, 3) := by decide +kernel
theorem dX6_motion_11 : decode cX6_motion 11 = .ok (.dup, 1) := by decide +kernel
theorem dX6_motion_12 : decode cX6_motion 12 = .ok (.ldc 167, 2) := by decide +kernel
theorem dX6_motion_14 : decode cX6_motion 14 = .ok (.invokespecial 78, 3) := by decide +kernel
theorem dX6_motion_17 : decode cX6_motion 17 = .ok (.athrow, 1) := by decide +kernel
theorem dX6_motion_18 : decode cX6_motion 18 = .ok (.iload_n 2, 1) := by decide +kernel
theorem dX6_motion_19 : decode cX6_motion 19 = .ok (.iconst 0, 1) := by decide +kernel
theorem dX6_motion_20 : decode cX6_motion 20 = .ok (.bipush 8, 2) := by decide +kernel
theorem dX6_motion_22 : decode cX6_motion 22 = .ok (.invokestatic 49, 3) := by decide +kernel
theorem dX6_motion_25 : decode cX6_motion 25 = .ok (.ifCond .ne 13, 3) := by decide +kernel
theorem dX6_motion_28 : decode cX6_motion 28 = .ok (.new 74, 3) := by decide +kernel
theorem dX6_motion_31 : decode cX6_motion 31 = .ok (.dup, 1) := by decide +kernel
theorem dX6_motion_32 : decode cX6_motion 32 = .ok (.ldc 178, 2) := by decide +kernel
theorem dX6_motion_34 : decode cX6_motion 34 = .ok (.invokespecial 78, 3) := by decide +kernel
theorem dX6_motion_37 : decode cX6_motion 37 = .ok (.athrow, 1) := by decide +kernel
theorem dX6_motion_38 : decode cX6_motion 38 = .ok (.aload_n 0, 1) := by decide +kernel
theorem dX6_motion_39 : decode cX6_motion 39 = .ok (.getfield 25, 3) := by decide +kernel
theorem dX6_motion_42 : decode cX6_motion 42 = .ok (.iload_n 1, 1) := by decide +kernel
theorem dX6_motion_43 : decode cX6_motion 43 = .ok (.invokevirtual 119, 3) := by decide +kernel
theorem dX6_motion_46 : decode cX6_motion 46 = .ok (.checkcast 159, 3) := by decide +kernel
theorem dX6_motion_49 : decode cX6_motion 49 = .ok (.iload_n 2, 1) := by decide +kernel
theorem dX6_motion_50 : decode cX6_motion 50 = .ok (.aload_n 0, 1) := by decide +kernel
theorem dX6_motion_51 : decode cX6_motion 51 = .ok (.getfield 34, 3) := by decide +kernel
theorem dX6_motion_54 : decode cX6_motion 54 = .ok (.invokevirtual 180, 3) := by decide +kernel
theorem dX6_motion_57 : decode cX6_motion 57 = .ok (.ireturn, 1) := by decide +kernel
theorem dX6_stand_0 : decode cX6_stand 0 = .ok (.aload_n 0, 1) := by decide +kernel
theorem dX6_stand_1 : decode cX6_stand 1 = .ok (.iload_n 1, 1) := by decide +kernel
theorem dX6_stand_2 : decode cX6_stand 2 = .ok (.invokevirtual 164, 3) := by decide +kernel
theorem dX6_stand_5 : decode cX6_stand 5 = .ok (.ifCond .ne 13, 3) := by decide +kernel
theorem dX6_stand_8 : decode cX6_stand 8 = .ok (.new 74, 3) := by decide +kernel
theorem dX6_stand_11 : decode cX6_stand 11 = .ok (.dup, 1) := by decide +kernel
theorem dX6_stand_12 : decode cX6_stand 12 = .ok (.ldc 167, 2) := by decide +kernel
theorem dX6_stand_14 : decode cX6_stand 14 = .ok (.invokespecial 78, 3) := by decide +kernel
theorem dX6_stand_17 : decode cX6_stand 17 = .ok (.athrow, 1) := by decide +kernel
theorem dX6_stand_18 : decode cX6_stand 18 = .ok (.aload_n 0, 1) := by decide +kernel
theorem dX6_stand_19 : decode cX6_stand 19 = .ok (.iload_n 2, 1) := by decide +kernel
theorem dX6_stand_20 : decode cX6_stand 20 = .ok (.invokevirtual 114, 3) := by decide +kernel
theorem dX6_stand_23 : decode cX6_stand 23 = .ok (.ifCond .ne 13, 3) := by decide +kernel
theorem dX6_stand_26 : decode cX6_stand 26 = .ok (.new 74, 3) := by decide +kernel
theorem dX6_stand_29 : decode cX6_stand 29 = .ok (.dup, 1) := by decide +kernel
theorem dX6_stand_30 : decode cX6_stand 30 = .ok (.ldc 117, 2) := by decide +kernel
theorem dX6_stand_32 : decode cX6_stand 32 = .ok (.invokespecial 78, 3) := by decide +kernel
theorem dX6_stand_35 : decode cX6_stand 35 = .ok (.athrow, 1) := by decide +kernel
theorem dX6_stand_36 : decode cX6_stand 36 = .ok (.aload_n 0, 1) := by decide +kernel
theorem dX6_stand_37 : decode cX6_stand 37 = .ok (.getfield 25, 3) := by decide +kernel
theorem dX6_stand_40 : decode cX6_stand 40 = .ok (.iload_n 1, 1) := by decide +kernel
theorem dX6_stand_41 : decode cX6_stand 41 = .ok (.invokevirtual 119, 3) := by decide +kernel
theorem dX6_stand_44 : decode cX6_stand 44 = .ok (.checkcast 159, 3) := by decide +kernel
theorem dX6_stand_47 : decode cX6_stand 47 = .ok (.aload_n 0, 1) := by decide +kernel
theorem dX6_stand_48 : decode cX6_stand 48 = .ok (.getfield 34, 3) := by decide +kernel
theorem dX6_stand_51 : decode cX6_stand 51 = .ok (.getfield 95, 3) := by decide +kernel
theorem dX6_stand_54 : decode cX6_stand 54 = .ok (.iload_n 2, 1) := by decide +kernel
theorem dX6_stand_55 : decode cX6_stand 55 = .ok (.invokevirtual 119, 3) := by decide +kernel
theorem dX6_stand_58 : decode cX6_stand 58 = .ok (.checkcast 109, 3) := by decide +kernel
theorem dX6_stand_61 : decode cX6_stand 61 = .ok (.invokevirtual 183, 3) := by decide +kernel
theorem dX6_stand_64 : decode cX6_stand 64 = .ok (.ireturn, 1) := by decide +kernel
theorem dX6_pass_0 : decode cX6_pass 0 = .ok (.iload_n 1, 1) := by decide +kernel
theorem dX6_pass_1 : decode cX6_pass 1 = .ok (.iconst 1, 1) := by decide +kernel
theorem dX6_pass_2 : decode cX6_pass 2 = .ok (.bipush 100, 2) := by decide +kernel
theorem dX6_pass_4 : decode cX6_pass 4 = .ok (.invokestatic 49, 3) := by decide +kernel
theorem dX6_pass_7 : decode cX6_pass 7 = .ok (.ifCond .ne 13, 3) := by decide +kernel
theorem dX6_pass_10 : decode cX6_pass 10 = .ok (.new 53, 3) := by decide +kernel
theorem dX6_pass_13 : decode cX6_pass 13 = .ok (.dup, 1) := by decide +kernel
theorem dX6_pass_14 : decode cX6_pass 14 = .ok (.ldc 187, 2) := by decide +kernel
theorem dX6_pass_16 : decode cX6_pass 16 = .ok (.invokespecial 57, 3) := by decide +kernel
theorem dX6_pass_19 : decode cX6_pass 19 = .ok (.athrow, 1) := by decide +kernel
theorem dX6_pass_20 : decode cX6_pass 20 = .ok (.aload_n 0, 1) := by decide +kernel
theorem dX6_pass_21 : decode cX6_pass 21 = .ok (.getfield 145, 3) := by decide +kernel
theorem dX6_pass_24 : decode cX6_pass 24 = .ok (.iload_n 1, 1) := by decide +kernel
theorem dX6_pass_25 : decode cX6_pass 25 = .ok (.iadd, 1) := by decide +kernel
theorem dX6_pass_26 : decode cX6_pass 26 = .ok (.sipush 2000, 3) := by decide +kernel
theorem dX6_pass_29 : decode cX6_pass 29 = .ok (.if_icmp .le 13, 3) := by decide +kernel
theorem dX6_pass_32 : decode cX6_pass 32 = .ok (.new 67, 3) := by decide +kernel
theorem dX6_pass_35 : decode cX6_pass 35 = .ok (.dup, 1) := by decide +kernel
theorem dX6_pass_36 : decode cX6_pass 36 = .ok (.ldc 189, 2) := by decide +kernel
theorem dX6_pass_38 : decode cX6_pass 38 = .ok (.invokespecial 71, 3) := by decide +kernel
theorem dX6_pass_41 : decode cX6_pass 41 = .ok (.athrow, 1) := by decide +kernel
theorem dX6_pass_42 : decode cX6_pass 42 = .ok (.iconst 0, 1) := by decide +kernel
theorem dX6_pass_43 : decode cX6_pass 43 = .ok (.istore_n 2, 1) := by decide +kernel
theorem dX6_pass_44 : decode cX6_pass 44 = .ok (.iconst 0, 1) := by decide +kernel
theorem dX6_pass_45 : decode cX6_pass 45 = .ok (.istore_n 3, 1) := by decide +kernel
theorem dX6_pass_46 : decode cX6_pass 46 = .ok (.iload_n 3, 1) := by decide +kernel
theorem dX6_pass_47 : decode cX6_pass 47 = .ok (.iload_n 1, 1) := by decide +kernel
theorem dX6_pass_48 : decode cX6_pass 48 = .ok (.if_icmp .ge 50, 3) := by decide +kernel
theorem dX6_pass_51 : decode cX6_pass 51 = .ok (.aload_n 0, 1) := by decide +kernel
theorem dX6_pass_52 : decode cX6_pass 52 = .ok (.getfield 34, 3) := by decide +kernel
theorem dX6_pass_55 : decode cX6_pass 55 = .ok (.aload_n 0, 1) := by decide +kernel
theorem dX6_pass_56 : decode cX6_pass 56 = .ok (.aload_n 0, 1) := by decide +kernel
theorem dX6_pass_57 : decode cX6_pass 57 = .ok (.getfield 145, 3) := by decide +kernel
theorem dX6_pass_60 : decode cX6_pass 60 = .ok (.invokevirtual 79, 3) := by decide +kernel
theorem dX6_pass_63 : decode cX6_pass 63 = .ok (.invokevirtual 191, 3) := by decide +kernel
theorem dX6_pass_66 : decode cX6_pass 66 = .ok (.iload_n 2, 1) := by decide +kernel
theorem dX6_pass_67 : decode cX6_pass 67 = .ok (.aload_n 0, 1) := by decide +kernel
theorem dX6_pass_68 : decode cX6_pass 68 = .ok (.aload_n 0, 1) := by decide +kernel
theorem dX6_pass_69 : decode cX6_pass 69 = .ok (.getfield 34, 3) := by decide +kernel
theorem dX6_pass_72 : decode cX6_pass 72 = .ok (.aload_n 0, 1) := by decide +kernel
theorem dX6_pass_73 : decode cX6_pass 73 = .ok (.getfield 145, 3) := by decide +kernel
theorem dX6_pass_76 : decode cX6_pass 76 = .ok (.iconst 1, 1) := by decide +kernel
theorem dX6_pass_77 : decode cX6_pass 77 = .ok (.invokevirtual 195, 3) := by decide +kernel
theorem dX6_pass_80 : decode cX6_pass 80 = .ok (.iadd, 1) := by decide +kernel
theorem dX6_pass_81 : decode cX6_pass 81 = .ok (.istore_n 2, 1) := by decide +kernel
theorem dX6_pass_82 : decode cX6_pass 82 = .ok (.aload_n 0, 1) := by decide +kernel
theorem dX6_pass_83 : decode cX6_pass 83 = .ok (.dup, 1) := by decide +kernel
theorem dX6_pass_84 : decode cX6_pass 84 = .ok (.getfield 145, 3) := by decide +kernel
theorem dX6_pass_87 : decode cX6_pass 87 = .ok (.iconst 1, 1) := by decide +kernel
theorem dX6_pass_88 : decode cX6_pass 88 = .ok (.iadd, 1) := by decide +kernel
theorem dX6_pass_89 : decode cX6_pass 89 = .ok (.putfield 145, 3) := by decide +kernel
theorem dX6_pass_92 : decode cX6_pass 92 = .ok (.iinc 3 1, 3) := by decide +kernel
theorem dX6_pass_95 : decode cX6_pass 95 = .ok (.goto (-49), 3) := by decide +kernel
theorem dX6_pass_98 : decode cX6_pass 98 = .ok (.aload_n 0, 1) := by decide +kernel
theorem dX6_pass_99 : decode cX6_pass 99 = .ok (.dup, 1) := by decide +kernel
theorem dX6_pass_100 : decode cX6_pass 100 = .ok (.getfield 199, 3) := by decide +kernel
theorem dX6_pass_103 : decode cX6_pass 103 = .ok (.iload_n 2, 1) := by decide +kernel
theorem dX6_pass_104 : decode cX6_pass 104 = .ok (.iadd, 1) := by decide +kernel
theorem dX6_pass_105 : decode cX6_pass 105 = .ok (.putfield 199, 3) := by decide +kernel
theorem dX6_pass_108 : decode cX6_pass 108 = .ok (.aload_n 0, 1) := by decide +kernel
theorem dX6_pass_109 : decode cX6_pass 109 = .ok (.invokevirtual 202, 3) := by decide +kernel
theorem dX6_pass_112 : decode cX6_pass 112 = .ok (.iload_n 2, 1) := by decide +kernel
theorem dX6_pass_113 : decode cX6_pass 113 = .ok (.ireturn, 1) := by decide +kernel
theorem dX6_count_0 : decode cX6_count 0 = .ok (.iload_n 1, 1) := by decide +kernel
theorem dX6_count_1 : decode cX6_count 1 = .ok (.iconst 0, 1) := by decide +kernel
theorem dX6_count_2 : decode cX6_count 2 = .ok (.bipush 8, 2) := by decide +kernel
theorem dX6_count_4 : decode cX6_count 4 = .ok (.invokestatic 49, 3) := by decide +kernel
theorem dX6_count_7 : decode cX6_count 7 = .ok (.ifCond .ne 13, 3) := by decide +kernel
theorem dX6_count_10 : decode cX6_count 10 = .ok (.new 74, 3) := by decide +kernel
theorem dX6_count_13 : decode cX6_count 13 = .ok (.dup, 1) := by decide +kernel
theorem dX6_count_14 : decode cX6_count 14 = .ok (.ldc 205, 2) := by decide +kernel
theorem dX6_count_16 : decode cX6_count 16 = .ok (.invokespecial 78, 3) := by decide +kernel
theorem dX6_count_19 : decode cX6_count 19 = .ok (.athrow, 1) := by decide +kernel
theorem dX6_count_20 : decode cX6_count 20 = .ok (.aload_n 0, 1) := by decide +kernel
theorem dX6_count_21 : decode cX6_count 21 = .ok (.iload_n 1, 1) := by decide +kernel
theorem dX6_count_22 : decode cX6_count 22 = .ok (.invokevirtual 207, 3) := by decide +kernel
theorem dX6_count_25 : decode cX6_count 25 = .ok (.ireturn, 1) := by decide +kernel
theorem dX6_party_0 : decode cX6_party 0 = .ok (.iload_n 1, 1) := by decide +kernel
theorem dX6_party_1 : decode cX6_party 1 = .ok (.iconst 0, 1) := by decide +kernel
theorem dX6_party_2 : decode cX6_party 2 = .ok (.iconst 3, 1) := by decide +kernel
theorem dX6_party_3 : decode cX6_party 3 = .ok (.invokestatic 49, 3) := by decide +kernel
theorem dX6_party_6 : decode cX6_party 6 = .ok (.ifCond .ne 13, 3) := by decide +kernel
theorem dX6_party_9 : decode cX6_party 9 = .ok (.new 74, 3) := by decide +kernel
theorem dX6_party_12 : decode cX6_party 12 = .ok (.dup, 1) := by decide +kernel
theorem dX6_party_13 : decode cX6_party 13 = .ok (.ldc 210, 2) := by decide +kernel
theorem dX6_party_15 : decode cX6_party 15 = .ok (.invokespecial 78, 3) := by decide +kernel
theorem dX6_party_18 : decode cX6_party 18 = .ok (.athrow, 1) := by decide +kernel
theorem dX6_party_19 : decode cX6_party 19 = .ok (.iload_n 2, 1) := by decide +kernel
theorem dX6_party_20 : decode cX6_party 20 = .ok (.iconst 0, 1) := by decide +kernel
theorem dX6_party_21 : decode cX6_party 21 = .ok (.iconst 1, 1) := by decide +kernel
theorem dX6_party_22 : decode cX6_party 22 = .ok (.invokestatic 49, 3) := by decide +kernel
theorem dX6_party_25 : decode cX6_party 25 = .ok (.ifCond .ne 13, 3) := by decide +kernel
theorem dX6_party_28 : decode cX6_party 28 = .ok (.new 74, 3) := by decide +kernel
theorem dX6_party_31 : decode cX6_party 31 = .ok (.dup, 1) := by decide +kernel
theorem dX6_party_32 : decode cX6_party 32 = .ok (.ldc 212, 2) := by decide +kernel
theorem dX6_party_34 : decode cX6_party 34 = .ok (.invokespecial 78, 3) := by decide +kernel
theorem dX6_party_37 : decode cX6_party 37 = .ok (.athrow, 1) := by decide +kernel
theorem dX6_party_38 : decode cX6_party 38 = .ok (.iconst 1, 1) := by decide +kernel
theorem dX6_party_39 : decode cX6_party 39 = .ok (.iload_n 1, 1) := by decide +kernel
theorem dX6_party_40 : decode cX6_party 40 = .ok (.ishl, 1) := by decide +kernel
theorem dX6_party_41 : decode cX6_party 41 = .ok (.istore_n 3, 1) := by decide +kernel
theorem dX6_party_42 : decode cX6_party 42 = .ok (.iload_n 2, 1) := by decide +kernel
theorem dX6_party_43 : decode cX6_party 43 = .ok (.ifCond .ne 14, 3) := by decide +kernel
theorem dX6_party_46 : decode cX6_party 46 = .ok (.aload_n 0, 1) := by decide +kernel
theorem dX6_party_47 : decode cX6_party 47 = .ok (.getfield 34, 3) := by decide +kernel
theorem dX6_party_50 : decode cX6_party 50 = .ok (.iload_n 3, 1) := by decide +kernel
theorem dX6_party_51 : decode cX6_party 51 = .ok (.invokevirtual 214, 3) := by decide +kernel
theorem dX6_party_54 : decode cX6_party 54 = .ok (.goto 11, 3) := by decide +kernel
theorem dX6_party_57 : decode cX6_party 57 = .ok (.aload_n 0, 1) := by decide +kernel
theorem dX6_party_58 : decode cX6_party 58 = .ok (.getfield 34, 3) := by decide +kernel
theorem dX6_party_61 : decode cX6_party 61 = .ok (.iload_n 3, 1) := by decide +kernel
theorem dX6_party_62 : decode cX6_party 62 = .ok (.invokevirtual 217, 3) := by decide +kernel
theorem dX6_party_65 : decode cX6_party 65 = .ok (.ireturn, 1) := by decide +kernel
theorem dX6_coalition_0 : decode cX6_coalition 0 = .ok (.aload_n 0, 1) := by decide +kernel
theorem dX6_coalition_1 : decode cX6_coalition 1 = .ok (.getfield 34, 3) := by decide +kernel
theorem dX6_coalition_4 : decode cX6_coalition 4 = .ok (.invokevirtual 220, 3) := by decide +kernel
theorem dX6_coalition_7 : decode cX6_coalition 7 = .ok (.istore_n 1, 1) := by decide +kernel
theorem dX6_coalition_8 : decode cX6_coalition 8 = .ok (.iconst 0, 1) := by decide +kernel
theorem dX6_coalition_9 : decode cX6_coalition 9 = .ok (.istore_n 2, 1) := by decide +kernel
theorem dX6_coalition_10 : decode cX6_coalition 10 = .ok (.iconst 0, 1) := by decide +kernel
theorem dX6_coalition_11 : decode cX6_coalition 11 = .ok (.istore_n 3, 1) := by decide +kernel
theorem dX6_coalition_12 : decode cX6_coalition 12 = .ok (.iconst 1, 1) := by decide +kernel
theorem dX6_coalition_13 : decode cX6_coalition 13 = .ok (.istore 4, 2) := by decide +kernel
theorem dX6_coalition_15 : decode cX6_coalition 15 = .ok (.iload 4, 2) := by decide +kernel
theorem dX6_coalition_17 : decode cX6_coalition 17 = .ok (.bipush 16, 2) := by decide +kernel
theorem dX6_coalition_19 : decode cX6_coalition 19 = .ok (.if_icmp .ge 69, 3) := by decide +kernel
theorem dX6_coalition_22 : decode cX6_coalition 22 = .ok (.aload_n 0, 1) := by decide +kernel
theorem dX6_coalition_23 : decode cX6_coalition 23 = .ok (.getfield 34, 3) := by decide +kernel
theorem dX6_coalition_26 : decode cX6_coalition 26 = .ok (.iload 4, 2) := by decide +kernel
theorem dX6_coalition_28 : decode cX6_coalition 28 = .ok (.invokevirtual 217, 3) := by decide +kernel
theorem dX6_coalition_31 : decode cX6_coalition 31 = .ok (.istore 5, 2) := by decide +kernel
theorem dX6_coalition_33 : decode cX6_coalition 33 = .ok (.iload 5, 2) := by decide +kernel
theorem dX6_coalition_35 : decode cX6_coalition 35 = .ok (.iconst 2, 1) := by decide +kernel
theorem dX6_coalition_36 : decode cX6_coalition 36 = .ok (.imul, 1) := by decide +kernel
theorem dX6_coalition_37 : decode cX6_coalition 37 = .ok (.iload_n 1, 1) := by decide +kernel
theorem dX6_coalition_38 : decode cX6_coalition 38 = .ok (.if_icmp .gt 6, 3) := by decide +kernel
theorem dX6_coalition_41 : decode cX6_coalition 41 = .ok (.goto 41, 3) := by decide +kernel
theorem dX6_coalition_44 : decode cX6_coalition 44 = .ok (.iload 4, 2) := by decide +kernel
theorem dX6_coalition_46 : decode cX6_coalition 46 = .ok (.invokestatic 223, 3) := by decide +kernel
theorem dX6_coalition_49 : decode cX6_coalition 49 = .ok (.iload_n 2, 1) := by decide +kernel
theorem dX6_coalition_50 : decode cX6_coalition 50 = .ok (.invokestatic 223, 3) := by decide +kernel
theorem dX6_coalition_53 : decode cX6_coalition 53 = .ok (.isub, 1) := by decide +kernel
theorem dX6_coalition_54 : decode cX6_coalition 54 = .ok (.istore 6, 2) := by decide +kernel
theorem dX6_coalition_56 : decode cX6_coalition 56 = .ok (.iload_n 2, 1) := by decide +kernel
theorem dX6_coalition_57 : decode cX6_coalition 57 = .ok (.ifCond .eq 19, 3) := by decide +kernel
theorem dX6_coalition_60 : decode cX6_coalition 60 = .ok (.iload 6, 2) := by decide +kernel
theorem dX6_coalition_62 : decode cX6_coalition 62 = .ok (.ifCond .lt 14, 3) := by decide +kernel
theorem dX6_coalition_65 : decode cX6_coalition 65 = .ok (.iload 6, 2) := by decide +kernel
theorem dX6_coalition_67 : decode cX6_coalition 67 = .ok (.ifCond .ne 15, 3) := by decide +kernel
theorem dX6_coalition_70 : decode cX6_coalition 70 = .ok (.iload 5, 2) := by decide +kernel
theorem dX6_coalition_72 : decode cX6_coalition 72 = .ok (.iload_n 3, 1) := by decide +kernel
theorem dX6_coalition_73 : decode cX6_coalition 73 = .ok (.if_icmp .le 9, 3) := by decide +kernel
theorem dX6_coalition_76 : decode cX6_coalition 76 = .ok (.iload 4, 2) := by decide +kernel
theorem dX6_coalition_78 : decode cX6_coalition 78 = .ok (.istore_n 2, 1) := by decide +kernel
theorem dX6_coalition_79 : decode cX6_coalition 79 = .ok (.iload 5, 2) := by decide +kernel
theorem dX6_coalition_81 : decode cX6_coalition 81 = .ok (.istore_n 3, 1) := by decide +kernel
theorem dX6_coalition_82 : decode cX6_coalition 82 = .ok (.iinc 4 1, 3) := by decide +kernel
theorem dX6_coalition_85 : decode cX6_coalition 85 = .ok (.goto (-70), 3) := by decide +kernel
theorem dX6_coalition_88 : decode cX6_coalition 88 = .ok (.iload_n 2, 1) := by decide +kernel
theorem dX6_coalition_89 : decode cX6_coalition 89 = .ok (.ireturn, 1) := by decide +kernel
theorem dX6_foresee_0 : decode cX6_foresee 0 = .ok (.aload_n 0, 1) := by decide +kernel
theorem dX6_foresee_1 : decode cX6_foresee 1 = .ok (.iload_n 1, 1) := by decide +kernel
theorem dX6_foresee_2 : decode cX6_foresee 2 = .ok (.invokevirtual 114, 3) := by decide +kernel
theorem dX6_foresee_5 : decode cX6_foresee 5 = .ok (.ifCond .ne 13, 3) := by decide +kernel
theorem dX6_foresee_8 : decode cX6_foresee 8 = .ok (.new 74, 3) := by decide +kernel
theorem dX6_foresee_11 : decode cX6_foresee 11 = .ok (.dup, 1) := by decide +kernel
theorem dX6_foresee_12 : decode cX6_foresee 12 = .ok (.ldc 117, 2) := by decide +kernel
theorem dX6_foresee_14 : decode cX6_foresee 14 = .ok (.invokespecial 78, 3) := by decide +kernel
theorem dX6_foresee_17 : decode cX6_foresee 17 = .ok (.athrow, 1) := by decide +kernel
theorem dX6_foresee_18 : decode cX6_foresee 18 = .ok (.iload_n 2, 1) := by decide +kernel
theorem dX6_foresee_19 : decode cX6_foresee 19 = .ok (.iconst 0, 1) := by decide +kernel
theorem dX6_foresee_20 : decode cX6_foresee 20 = .ok (.bipush 100, 2) := by decide +kernel
theorem dX6_foresee_22 : decode cX6_foresee 22 = .ok (.invokestatic 49, 3) := by decide +kernel
theorem dX6_foresee_25 : decode cX6_foresee 25 = .ok (.ifCond .ne 13, 3) := by decide +kernel
theorem dX6_foresee_28 : decode cX6_foresee 28 = .ok (.new 53, 3) := by decide +kernel
theorem dX6_foresee_31 : decode cX6_foresee 31 = .ok (.dup, 1) := by decide +kernel
theorem dX6_foresee_32 : decode cX6_foresee 32 = .ok (.ldc 187, 2) := by decide +kernel
theorem dX6_foresee_34 : decode cX6_foresee 34 = .ok (.invokespecial 57, 3) := by decide +kernel
theorem dX6_foresee_37 : decode cX6_foresee 37 = .ok (.athrow, 1) := by decide +kernel
theorem dX6_foresee_38 : decode cX6_foresee 38 = .ok (.aload_n 0, 1) := by decide +kernel
theorem dX6_foresee_39 : decode cX6_foresee 39 = .ok (.getfield 145, 3) := by decide +kernel
theorem dX6_foresee_42 : decode cX6_foresee 42 = .ok (.iload_n 2, 1) := by decide +kernel
theorem dX6_foresee_43 : decode cX6_foresee 43 = .ok (.iadd, 1) := by decide +kernel
theorem dX6_foresee_44 : decode cX6_foresee 44 = .ok (.sipush 2000, 3) := by decide +kernel
theorem dX6_foresee_47 : decode cX6_foresee 47 = .ok (.if_icmp .le 13, 3) := by decide +kernel
theorem dX6_foresee_50 : decode cX6_foresee 50 = .ok (.new 67, 3) := by decide +kernel
theorem dX6_foresee_53 : decode cX6_foresee 53 = .ok (.dup, 1) := by decide +kernel
theorem dX6_foresee_54 : decode cX6_foresee 54 = .ok (.ldc 189, 2) := by decide +kernel
theorem dX6_foresee_56 : decode cX6_foresee 56 = .ok (.invokespecial 71, 3) := by decide +kernel
theorem dX6_foresee_59 : decode cX6_foresee 59 = .ok (.athrow, 1) := by decide +kernel
theorem dX6_foresee_60 : decode cX6_foresee 60 = .ok (.aload_n 0, 1) := by decide +kernel
theorem dX6_foresee_61 : decode cX6_foresee 61 = .ok (.getfield 38, 3) := by decide +kernel
theorem dX6_foresee_64 : decode cX6_foresee 64 = .ok (.aload_n 0, 1) := by decide +kernel
theorem dX6_foresee_65 : decode cX6_foresee 65 = .ok (.getfield 34, 3) := by decide +kernel
theorem dX6_foresee_68 : decode cX6_foresee 68 = .ok (.invokevirtual 228, 3) := by decide +kernel
theorem dX6_foresee_71 : decode cX6_foresee 71 = .ok (.iconst 0, 1) := by decide +kernel
theorem dX6_foresee_72 : decode cX6_foresee 72 = .ok (.istore_n 3, 1) := by decide +kernel
theorem dX6_foresee_73 : decode cX6_foresee 73 = .ok (.iload_n 3, 1) := by decide +kernel
theorem dX6_foresee_74 : decode cX6_foresee 74 = .ok (.iload_n 2, 1) := by decide +kernel
theorem dX6_foresee_75 : decode cX6_foresee 75 = .ok (.if_icmp .ge 42, 3) := by decide +kernel
theorem dX6_foresee_78 : decode cX6_foresee 78 = .ok (.aload_n 0, 1) := by decide +kernel
theorem dX6_foresee_79 : decode cX6_foresee 79 = .ok (.getfield 38, 3) := by decide +kernel
theorem dX6_foresee_82 : decode cX6_foresee 82 = .ok (.aload_n 0, 1) := by decide +kernel
theorem dX6_foresee_83 : decode cX6_foresee 83 = .ok (.aload_n 0, 1) := by decide +kernel
theorem dX6_foresee_84 : decode cX6_foresee 84 = .ok (.getfield 145, 3) := by decide +kernel
theorem dX6_foresee_87 : decode cX6_foresee 87 = .ok (.iload_n 3, 1) := by decide +kernel
theorem dX6_foresee_88 : decode cX6_foresee 88 = .ok (.iadd, 1) := by decide +kernel
theorem dX6_foresee_89 : decode cX6_foresee 89 = .ok (.invokevirtual 79, 3) := by decide +kernel
theorem dX6_foresee_92 : decode cX6_foresee 92 = .ok (.invokevirtual 191, 3) := by decide +kernel
theorem dX6_foresee_95 : decode cX6_foresee 95 = .ok (.aload_n 0, 1) := by decide +kernel
theorem dX6_foresee_96 : decode cX6_foresee 96 = .ok (.aload_n 0, 1) := by decide +kernel
theorem dX6_foresee_97 : decode cX6_foresee 97 = .ok (.getfield 38, 3) := by decide +kernel
theorem dX6_foresee_100 : decode cX6_foresee 100 = .ok (.aload_n 0, 1) := by decide +kernel
theorem dX6_foresee_101 : decode cX6_foresee 101 = .ok (.getfield 145, 3) := by decide +kernel
theorem dX6_foresee_104 : decode cX6_foresee 104 = .ok (.iload_n 3, 1) := by decide +kernel
theorem dX6_foresee_105 : decode cX6_foresee 105 = .ok (.iadd, 1) := by decide +kernel
theorem dX6_foresee_106 : decode cX6_foresee 106 = .ok (.iconst 0, 1) := by decide +kernel
theorem dX6_foresee_107 : decode cX6_foresee 107 = .ok (.invokevirtual 195, 3) := by decide +kernel
theorem dX6_foresee_110 : decode cX6_foresee 110 = .ok (.pop, 1) := by decide +kernel
theorem dX6_foresee_111 : decode cX6_foresee 111 = .ok (.iinc 3 1, 3) := by decide +kernel
theorem dX6_foresee_114 : decode cX6_foresee 114 = .ok (.goto (-41), 3) := by decide +kernel
theorem dX6_foresee_117 : decode cX6_foresee 117 = .ok (.aload_n 0, 1) := by decide +kernel
theorem dX6_foresee_118 : decode cX6_foresee 118 = .ok (.getfield 38, 3) := by decide +kernel
theorem dX6_foresee_121 : decode cX6_foresee 121 = .ok (.iload_n 1, 1) := by decide +kernel
theorem dX6_foresee_122 : decode cX6_foresee 122 = .ok (.invokevirtual 232, 3) := by decide +kernel
theorem dX6_foresee_125 : decode cX6_foresee 125 = .ok (.ireturn, 1) := by decide +kernel
theorem dX6_passes_0 : decode cX6_passes 0 = .ok (.aload_n 0, 1) := by decide +kernel
theorem dX6_passes_1 : decode cX6_passes 1 = .ok (.iload_n 1, 1) := by decide +kernel
theorem dX6_passes_2 : decode cX6_passes 2 = .ok (.invokevirtual 164, 3) := by decide +kernel
theorem dX6_passes_5 : decode cX6_passes 5 = .ok (.ifCond .ne 13, 3) := by decide +kernel
theorem dX6_passes_8 : decode cX6_passes 8 = .ok (.new 74, 3) := by decide +kernel
theorem dX6_passes_11 : decode cX6_passes 11 = .ok (.dup, 1) := by decide +kernel
theorem dX6_passes_12 : decode cX6_passes 12 = .ok (.ldc 167, 2) := by decide +kernel
theorem dX6_passes_14 : decode cX6_passes 14 = .ok (.invokespecial 78, 3) := by decide +kernel
theorem dX6_passes_17 : decode cX6_passes 17 = .ok (.athrow, 1) := by decide +kernel
theorem dX6_passes_18 : decode cX6_passes 18 = .ok (.iload_n 2, 1) := by decide +kernel
theorem dX6_passes_19 : decode cX6_passes 19 = .ok (.iconst 1, 1) := by decide +kernel
theorem dX6_passes_20 : decode cX6_passes 20 = .ok (.bipush 100, 2) := by decide +kernel
theorem dX6_passes_22 : decode cX6_passes 22 = .ok (.invokestatic 49, 3) := by decide +kernel
theorem dX6_passes_25 : decode cX6_passes 25 = .ok (.ifCond .ne 13, 3) := by decide +kernel
theorem dX6_passes_28 : decode cX6_passes 28 = .ok (.new 53, 3) := by decide +kernel
theorem dX6_passes_31 : decode cX6_passes 31 = .ok (.dup, 1) := by decide +kernel
theorem dX6_passes_32 : decode cX6_passes 32 = .ok (.ldc 187, 2) := by decide +kernel
theorem dX6_passes_34 : decode cX6_passes 34 = .ok (.invokespecial 57, 3) := by decide +kernel
theorem dX6_passes_37 : decode cX6_passes 37 = .ok (.athrow, 1) := by decide +kernel
theorem dX6_passes_38 : decode cX6_passes 38 = .ok (.aload_n 0, 1) := by decide +kernel
theorem dX6_passes_39 : decode cX6_passes 39 = .ok (.getfield 145, 3) := by decide +kernel
theorem dX6_passes_42 : decode cX6_passes 42 = .ok (.iload_n 2, 1) := by decide +kernel
theorem dX6_passes_43 : decode cX6_passes 43 = .ok (.iadd, 1) := by decide +kernel
theorem dX6_passes_44 : decode cX6_passes 44 = .ok (.sipush 2000, 3) := by decide +kernel
theorem dX6_passes_47 : decode cX6_passes 47 = .ok (.if_icmp .le 13, 3) := by decide +kernel
theorem dX6_passes_50 : decode cX6_passes 50 = .ok (.new 67, 3) := by decide +kernel
theorem dX6_passes_53 : decode cX6_passes 53 = .ok (.dup, 1) := by decide +kernel
theorem dX6_passes_54 : decode cX6_passes 54 = .ok (.ldc 189, 2) := by decide +kernel
theorem dX6_passes_56 : decode cX6_passes 56 = .ok (.invokespecial 71, 3) := by decide +kernel
theorem dX6_passes_59 : decode cX6_passes 59 = .ok (.athrow, 1) := by decide +kernel
theorem dX6_passes_60 : decode cX6_passes 60 = .ok (.aload_n 0, 1) := by decide +kernel
theorem dX6_passes_61 : decode cX6_passes 61 = .ok (.getfield 38, 3) := by decide +kernel
theorem dX6_passes_64 : decode cX6_passes 64 = .ok (.aload_n 0, 1) := by decide +kernel
theorem dX6_passes_65 : decode cX6_passes 65 = .ok (.getfield 34, 3) := by decide +kernel
theorem dX6_passes_68 : decode cX6_passes 68 = .ok (.invokevirtual 228, 3) := by decide +kernel
theorem dX6_passes_71 : decode cX6_passes 71 = .ok (.aload_n 0, 1) := by decide +kernel
theorem dX6_passes_72 : decode cX6_passes 72 = .ok (.aload_n 0, 1) := by decide +kernel
theorem dX6_passes_73 : decode cX6_passes 73 = .ok (.getfield 25, 3) := by decide +kernel
theorem dX6_passes_76 : decode cX6_passes 76 = .ok (.iload_n 1, 1) := by decide +kernel
theorem dX6_passes_77 : decode cX6_passes 77 = .ok (.invokevirtual 119, 3) := by decide +kernel
theorem dX6_passes_80 : decode cX6_passes 80 = .ok (.checkcast 159, 3) := by decide +kernel
theorem dX6_passes_83 : decode cX6_passes 83 = .ok (.iload_n 2, 1) := by decide +kernel
theorem dX6_passes_84 : decode cX6_passes 84 = .ok (.invokevirtual 235, 3) := by decide +kernel
theorem dX6_passes_87 : decode cX6_passes 87 = .ok (.istore_n 3, 1) := by decide +kernel
theorem dX6_passes_88 : decode cX6_passes 88 = .ok (.iload_n 3, 1) := by decide +kernel
theorem dX6_passes_89 : decode cX6_passes 89 = .ok (.iload_n 2, 1) := by decide +kernel
theorem dX6_passes_90 : decode cX6_passes 90 = .ok (.if_icmp .ge 12, 3) := by decide +kernel
theorem dX6_passes_93 : decode cX6_passes 93 = .ok (.aload_n 0, 1) := by decide +kernel
theorem dX6_passes_94 : decode cX6_passes 94 = .ok (.getfield 145, 3) := by decide +kernel
theorem dX6_passes_97 : decode cX6_passes 97 = .ok (.iload_n 3, 1) := by decide +kernel
theorem dX6_passes_98 : decode cX6_passes 98 = .ok (.iadd, 1) := by decide +kernel
theorem dX6_passes_99 : decode cX6_passes 99 = .ok (.goto 4, 3) := by decide +kernel
theorem dX6_passes_102 : decode cX6_passes 102 = .ok (.iconst (-1), 1) := by decide +kernel
theorem dX6_passes_103 : decode cX6_passes 103 = .ok (.ireturn, 1) := by decide +kernel
theorem dX6_advise_0 : decode cX6_advise 0 = .ok (.aload_n 0, 1) := by decide +kernel
theorem dX6_advise_1 : decode cX6_advise 1 = .ok (.iload_n 1, 1) := by decide +kernel
theorem dX6_advise_2 : decode cX6_advise 2 = .ok (.invokevirtual 164, 3) := by decide +kernel
theorem dX6_advise_5 : decode cX6_advise 5 = .ok (.ifCond .ne 13, 3) := by decide +kernel
theorem dX6_advise_8 : decode cX6_advise 8 = .ok (.new 74, 3) := by decide +kernel
theorem dX6_advise_11 : decode cX6_advise 11 = .ok (.dup, 1) := by decide +kernel
theorem dX6_advise_12 : decode cX6_advise 12 = .ok (.ldc 167, 2) := by decide +kernel
theorem dX6_advise_14 : decode cX6_advise 14 = .ok (.invokespecial 78, 3) := by decide +kernel
theorem dX6_advise_17 : decode cX6_advise 17 = .ok (.athrow, 1) := by decide +kernel
theorem dX6_advise_18 : decode cX6_advise 18 = .ok (.iload_n 2, 1) := by decide +kernel
theorem dX6_advise_19 : decode cX6_advise 19 = .ok (.iconst 1, 1) := by decide +kernel
theorem dX6_advise_20 : decode cX6_advise 20 = .ok (.bipush 50, 2) := by decide +kernel
theorem dX6_advise_22 : decode cX6_advise 22 = .ok (.invokestatic 49, 3) := by decide +kernel
theorem dX6_advise_25 : decode cX6_advise 25 = .ok (.ifCond .ne 13, 3) := by decide +kernel
theorem dX6_advise_28 : decode cX6_advise 28 = .ok (.new 53, 3) := by decide +kernel
theorem dX6_advise_31 : decode cX6_advise 31 = .ok (.dup, 1) := by decide +kernel
theorem dX6_advise_32 : decode cX6_advise 32 = .ok (.ldc 187, 2) := by decide +kernel
theorem dX6_advise_34 : decode cX6_advise 34 = .ok (.invokespecial 57, 3) := by decide +kernel
theorem dX6_advise_37 : decode cX6_advise 37 = .ok (.athrow, 1) := by decide +kernel
theorem dX6_advise_38 : decode cX6_advise 38 = .ok (.aload_n 0, 1) := by decide +kernel
theorem dX6_advise_39 : decode cX6_advise 39 = .ok (.getfield 145, 3) := by decide +kernel
theorem dX6_advise_42 : decode cX6_advise 42 = .ok (.iload_n 2, 1) := by decide +kernel
theorem dX6_advise_43 : decode cX6_advise 43 = .ok (.iadd, 1) := by decide +kernel
theorem dX6_advise_44 : decode cX6_advise 44 = .ok (.sipush 2000, 3) := by decide +kernel
theorem dX6_advise_47 : decode cX6_advise 47 = .ok (.if_icmp .le 13, 3) := by decide +kernel
theorem dX6_advise_50 : decode cX6_advise 50 = .ok (.new 67, 3) := by decide +kernel
theorem dX6_advise_53 : decode cX6_advise 53 = .ok (.dup, 1) := by decide +kernel
theorem dX6_advise_54 : decode cX6_advise 54 = .ok (.ldc 189, 2) := by decide +kernel
theorem dX6_advise_56 : decode cX6_advise 56 = .ok (.invokespecial 71, 3) := by decide +kernel
theorem dX6_advise_59 : decode cX6_advise 59 = .ok (.athrow, 1) := by decide +kernel
theorem dX6_advise_60 : decode cX6_advise 60 = .ok (.aload_n 0, 1) := by decide +kernel
theorem dX6_advise_61 : decode cX6_advise 61 = .ok (.getfield 38, 3) := by decide +kernel
theorem dX6_advise_64 : decode cX6_advise 64 = .ok (.aload_n 0, 1) := by decide +kernel
theorem dX6_advise_65 : decode cX6_advise 65 = .ok (.getfield 34, 3) := by decide +kernel
theorem dX6_advise_68 : decode cX6_advise 68 = .ok (.invokevirtual 228, 3) := by decide +kernel
theorem dX6_advise_71 : decode cX6_advise 71 = .ok (.aload_n 0, 1) := by decide +kernel
theorem dX6_advise_72 : decode cX6_advise 72 = .ok (.aload_n 0, 1) := by decide +kernel
theorem dX6_advise_73 : decode cX6_advise 73 = .ok (.getfield 25, 3) := by decide +kernel
theorem dX6_advise_76 : decode cX6_advise 76 = .ok (.iload_n 1, 1) := by decide +kernel
theorem dX6_advise_77 : decode cX6_advise 77 = .ok (.invokevirtual 119, 3) := by decide +kernel
theorem dX6_advise_80 : decode cX6_advise 80 = .ok (.checkcast 159, 3) := by decide +kernel
theorem dX6_advise_83 : decode cX6_advise 83 = .ok (.iload_n 2, 1) := by decide +kernel
theorem dX6_advise_84 : decode cX6_advise 84 = .ok (.invokevirtual 235, 3) := by decide +kernel
theorem dX6_advise_87 : decode cX6_advise 87 = .ok (.istore_n 3, 1) := by decide +kernel
theorem dX6_advise_88 : decode cX6_advise 88 = .ok (.iconst (-1), 1) := by decide +kernel
theorem dX6_advise_89 : decode cX6_advise 89 = .ok (.istore 4, 2) := by decide +kernel
theorem dX6_advise_91 : decode cX6_advise 91 = .ok (.iconst 0, 1) := by decide +kernel
theorem dX6_advise_92 : decode cX6_advise 92 = .ok (.istore 5, 2) := by decide +kernel
theorem dX6_advise_94 : decode cX6_advise 94 = .ok (.iload 5, 2) := by decide +kernel
theorem dX6_advise_96 : decode cX6_advise 96 = .ok (.aload_n 0, 1) := by decide +kernel
theorem dX6_advise_97 : decode cX6_advise 97 = .ok (.getfield 38, 3) := by decide +kernel
theorem dX6_advise_100 : decode cX6_advise 100 = .ok (.getfield 95, 3) := by decide +kernel
theorem dX6_advise_103 : decode cX6_advise 103 = .ok (.invokevirtual 60, 3) := by decide +kernel
theorem dX6_advise_106 : decode cX6_advise 106 = .ok (.if_icmp .ge 69, 3) := by decide +kernel
theorem dX6_advise_109 : decode cX6_advise 109 = .ok (.aload_n 0, 1) := by decide +kernel
theorem dX6_advise_110 : decode cX6_advise 110 = .ok (.getfield 38, 3) := by decide +kernel
theorem dX6_advise_113 : decode cX6_advise 113 = .ok (.aload_n 0, 1) := by decide +kernel
theorem dX6_advise_114 : decode cX6_advise 114 = .ok (.getfield 34, 3) := by decide +kernel
theorem dX6_advise_117 : decode cX6_advise 117 = .ok (.invokevirtual 228, 3) := by decide +kernel
theorem dX6_advise_120 : decode cX6_advise 120 = .ok (.aload_n 0, 1) := by decide +kernel
theorem dX6_advise_121 : decode cX6_advise 121 = .ok (.getfield 38, 3) := by decide +kernel
theorem dX6_advise_124 : decode cX6_advise 124 = .ok (.getfield 95, 3) := by decide +kernel
theorem dX6_advise_127 : decode cX6_advise 127 = .ok (.iload 5, 2) := by decide +kernel
theorem dX6_advise_129 : decode cX6_advise 129 = .ok (.invokevirtual 119, 3) := by decide +kernel
theorem dX6_advise_132 : decode cX6_advise 132 = .ok (.checkcast 109, 3) := by decide +kernel
theorem dX6_advise_135 : decode cX6_advise 135 = .ok (.invokevirtual 127, 3) := by decide +kernel
theorem dX6_advise_138 : decode cX6_advise 138 = .ok (.aload_n 0, 1) := by decide +kernel
theorem dX6_advise_139 : decode cX6_advise 139 = .ok (.aload_n 0, 1) := by decide +kernel
theorem dX6_advise_140 : decode cX6_advise 140 = .ok (.getfield 25, 3) := by decide +kernel
theorem dX6_advise_143 : decode cX6_advise 143 = .ok (.iload_n 1, 1) := by decide +kernel
theorem dX6_advise_144 : decode cX6_advise 144 = .ok (.invokevirtual 119, 3) := by decide +kernel
theorem dX6_advise_147 : decode cX6_advise 147 = .ok (.checkcast 159, 3) := by decide +kernel
theorem dX6_advise_150 : decode cX6_advise 150 = .ok (.iload_n 3, 1) := by decide +kernel
theorem dX6_advise_151 : decode cX6_advise 151 = .ok (.invokevirtual 235, 3) := by decide +kernel
theorem dX6_advise_154 : decode cX6_advise 154 = .ok (.istore 6, 2) := by decide +kernel
theorem dX6_advise_156 : decode cX6_advise 156 = .ok (.iload 6, 2) := by decide +kernel
theorem dX6_advise_158 : decode cX6_advise 158 = .ok (.iload_n 3, 1) := by decide +kernel
theorem dX6_advise_159 : decode cX6_advise 159 = .ok (.if_icmp .ge 10, 3) := by decide +kernel
theorem dX6_advise_162 : decode cX6_advise 162 = .ok (.iload 6, 2) := by decide +kernel
theorem dX6_advise_164 : decode cX6_advise 164 = .ok (.istore_n 3, 1) := by decide +kernel
theorem dX6_advise_165 : decode cX6_advise 165 = .ok (.iload 5, 2) := by decide +kernel
theorem dX6_advise_167 : decode cX6_advise 167 = .ok (.istore 4, 2) := by decide +kernel
theorem dX6_advise_169 : decode cX6_advise 169 = .ok (.iinc 5 1, 3) := by decide +kernel
theorem dX6_advise_172 : decode cX6_advise 172 = .ok (.goto (-78), 3) := by decide +kernel
theorem dX6_advise_175 : decode cX6_advise 175 = .ok (.iload 4, 2) := by decide +kernel
theorem dX6_advise_177 : decode cX6_advise 177 = .ok (.ireturn, 1) := by decide +kernel
theorem dX6_discord_0 : decode cX6_discord 0 = .ok (.aload_n 0, 1) := by decide +kernel
theorem dX6_discord_1 : decode cX6_discord 1 = .ok (.getfield 34, 3) := by decide +kernel
theorem dX6_discord_4 : decode cX6_discord 4 = .ok (.getfield 95, 3) := by decide +kernel
theorem dX6_discord_7 : decode cX6_discord 7 = .ok (.invokevirtual 60, 3) := by decide +kernel
theorem dX6_discord_10 : decode cX6_discord 10 = .ok (.istore_n 1, 1) := by decide +kernel
theorem dX6_discord_11 : decode cX6_discord 11 = .ok (.iload_n 1, 1) := by decide +kernel
theorem dX6_discord_12 : decode cX6_discord 12 = .ok (.ifCond .ne 5, 3) := by decide +kernel
theorem dX6_discord_15 : decode cX6_discord 15 = .ok (.dconst 0, 1) := by decide +kernel
theorem dX6_discord_16 : decode cX6_discord 16 = .ok (.dreturn, 1) := by decide +kernel
theorem dX6_discord_17 : decode cX6_discord 17 = .ok (.iconst 0, 1) := by decide +kernel
theorem dX6_discord_18 : decode cX6_discord 18 = .ok (.istore_n 2, 1) := by decide +kernel
theorem dX6_discord_19 : decode cX6_discord 19 = .ok (.iconst 0, 1) := by decide +kernel
theorem dX6_discord_20 : decode cX6_discord 20 = .ok (.istore_n 3, 1) := by decide +kernel
theorem dX6_discord_21 : decode cX6_discord 21 = .ok (.iload_n 3, 1) := by decide +kernel
theorem dX6_discord_22 : decode cX6_discord 22 = .ok (.iload_n 1, 1) := by decide +kernel
theorem dX6_discord_23 : decode cX6_discord 23 = .ok (.if_icmp .ge 43, 3) := by decide +kernel
theorem dX6_discord_26 : decode cX6_discord 26 = .ok (.iload_n 2, 1) := by decide +kernel
theorem dX6_discord_27 : decode cX6_discord 27 = .ok (.aload_n 0, 1) := by decide +kernel
theorem dX6_discord_28 : decode cX6_discord 28 = .ok (.getfield 34, 3) := by decide +kernel
theorem dX6_discord_31 : decode cX6_discord 31 = .ok (.getfield 95, 3) := by decide +kernel
theorem dX6_discord_34 : decode cX6_discord 34 = .ok (.iload_n 3, 1) := by decide +kernel
theorem dX6_discord_35 : decode cX6_discord 35 = .ok (.invokevirtual 119, 3) := by decide +kernel
theorem dX6_discord_38 : decode cX6_discord 38 = .ok (.checkcast 109, 3) := by decide +kernel
theorem dX6_discord_41 : decode cX6_discord 41 = .ok (.getfield 137, 3) := by decide +kernel
theorem dX6_discord_44 : decode cX6_discord 44 = .ok (.aload_n 0, 1) := by decide +kernel
theorem dX6_discord_45 : decode cX6_discord 45 = .ok (.aload_n 0, 1) := by decide +kernel
theorem dX6_discord_46 : decode cX6_discord 46 = .ok (.getfield 145, 3) := by decide +kernel
theorem dX6_discord_49 : decode cX6_discord 49 = .ok (.invokevirtual 79, 3) := by decide +kernel
theorem dX6_discord_52 : decode cX6_discord 52 = .ok (.getfield 239, 3) := by decide +kernel
theorem dX6_discord_55 : decode cX6_discord 55 = .ok (.invokestatic 240, 3) := by decide +kernel
theorem dX6_discord_58 : decode cX6_discord 58 = .ok (.iadd, 1) := by decide +kernel
theorem dX6_discord_59 : decode cX6_discord 59 = .ok (.istore_n 2, 1) := by decide +kernel
theorem dX6_discord_60 : decode cX6_discord 60 = .ok (.iinc 3 1, 3) := by decide +kernel
theorem dX6_discord_63 : decode cX6_discord 63 = .ok (.goto (-42), 3) := by decide +kernel
theorem dX6_discord_66 : decode cX6_discord 66 = .ok (.iload_n 2, 1) := by decide +kernel
theorem dX6_discord_67 : decode cX6_discord 67 = .ok (.i2d, 1) := by decide +kernel
theorem dX6_discord_68 : decode cX6_discord 68 = .ok (.iload_n 1, 1) := by decide +kernel
theorem dX6_discord_69 : decode cX6_discord 69 = .ok (.i2d, 1) := by decide +kernel
theorem dX6_discord_70 : decode cX6_discord 70 = .ok (.ddiv, 1) := by decide +kernel
theorem dX6_discord_71 : decode cX6_discord 71 = .ok (.dreturn, 1) := by decide +kernel
theorem dX6_digest_0 : decode cX6_digest 0 = .ok (.ldc2_w 243, 3) := by decide +kernel
theorem dX6_digest_3 : decode cX6_digest 3 = .ok (.lstore_n 1, 1) := by decide +kernel
theorem dX6_digest_4 : decode cX6_digest 4 = .ok (.iconst 0, 1) := by decide +kernel
theorem dX6_digest_5 : decode cX6_digest 5 = .ok (.istore_n 3, 1) := by decide +kernel
theorem dX6_digest_6 : decode cX6_digest 6 = .ok (.iload_n 3, 1) := by decide +kernel
theorem dX6_digest_7 : decode cX6_digest 7 = .ok (.bipush 9, 2) := by decide +kernel
theorem dX6_digest_9 : decode cX6_digest 9 = .ok (.if_icmp .ge 22, 3) := by decide +kernel
theorem dX6_digest_12 : decode cX6_digest 12 = .ok (.lload_n 1, 1) := by decide +kernel
theorem dX6_digest_13 : decode cX6_digest 13 = .ok (.ldc2_w 245, 3) := by decide +kernel
theorem dX6_digest_16 : decode cX6_digest 16 = .ok (.lmul, 1) := by decide +kernel
theorem dX6_digest_17 : decode cX6_digest 17 = .ok (.aload_n 0, 1) := by decide +kernel
theorem dX6_digest_18 : decode cX6_digest 18 = .ok (.iload_n 3, 1) := by decide +kernel
theorem dX6_digest_19 : decode cX6_digest 19 = .ok (.invokevirtual 207, 3) := by decide +kernel
theorem dX6_digest_22 : decode cX6_digest 22 = .ok (.i2l, 1) := by decide +kernel
theorem dX6_digest_23 : decode cX6_digest 23 = .ok (.ladd, 1) := by decide +kernel
theorem dX6_digest_24 : decode cX6_digest 24 = .ok (.lstore_n 1, 1) := by decide +kernel
end
section
theorem dX6_digest_25 : decode cX6_digest 25 = .ok (.iinc 3 1, 3) := by decide +kernel
theorem dX6_digest_28 : decode cX6_digest 28 = .ok (.goto (-22), 3) := by decide +kernel
theorem dX6_digest_31 : decode cX6_digest 31 = .ok (.aload_n 0, 1) := by decide +kernel
theorem dX6_digest_32 : decode cX6_digest 32 = .ok (.lload_n 1, 1) := by decide +kernel
theorem dX6_digest_33 : decode cX6_digest 33 = .ok (.invokevirtual 247, 3) := by decide +kernel
theorem dX6_digest_36 : decode cX6_digest 36 = .ok (.lstore_n 1, 1) := by decide +kernel
theorem dX6_digest_37 : decode cX6_digest 37 = .ok (.aload_n 0, 1) := by decide +kernel
theorem dX6_digest_38 : decode cX6_digest 38 = .ok (.lload_n 1, 1) := by decide +kernel
theorem dX6_digest_39 : decode cX6_digest 39 = .ok (.invokevirtual 251, 3) := by decide +kernel
theorem dX6_digest_42 : decode cX6_digest 42 = .ok (.lstore_n 1, 1) := by decide +kernel
theorem dX6_digest_43 : decode cX6_digest 43 = .ok (.aload_n 0, 1) := by decide +kernel
theorem dX6_digest_44 : decode cX6_digest 44 = .ok (.lload_n 1, 1) := by decide +kernel
theorem dX6_digest_45 : decode cX6_digest 45 = .ok (.invokevirtual 254, 3) := by decide +kernel
theorem dX6_digest_48 : decode cX6_digest 48 = .ok (.lstore_n 1, 1) := by decide +kernel
theorem dX6_digest_49 : decode cX6_digest 49 = .ok (.iconst 0, 1) := by decide +kernel
theorem dX6_digest_50 : decode cX6_digest 50 = .ok (.istore_n 3, 1) := by decide +kernel
theorem dX6_digest_51 : decode cX6_digest 51 = .ok (.iload_n 3, 1) := by decide +kernel
theorem dX6_digest_52 : decode cX6_digest 52 = .ok (.aload_n 0, 1) := by decide +kernel
theorem dX6_digest_53 : decode cX6_digest 53 = .ok (.getfield 28, 3) := by decide +kernel
theorem dX6_digest_56 : decode cX6_digest 56 = .ok (.invokevirtual 60, 3) := by decide +kernel
theorem dX6_digest_59 : decode cX6_digest 59 = .ok (.if_icmp .ge 56, 3) := by decide +kernel
theorem dX6_digest_62 : decode cX6_digest 62 = .ok (.lload_n 1, 1) := by decide +kernel
theorem dX6_digest_63 : decode cX6_digest 63 = .ok (.ldc2_w 245, 3) := by decide +kernel
theorem dX6_digest_66 : decode cX6_digest 66 = .ok (.lmul, 1) := by decide +kernel
theorem dX6_digest_67 : decode cX6_digest 67 = .ok (.aload_n 0, 1) := by decide +kernel
theorem dX6_digest_68 : decode cX6_digest 68 = .ok (.getfield 28, 3) := by decide +kernel
theorem dX6_digest_71 : decode cX6_digest 71 = .ok (.iload_n 3, 1) := by decide +kernel
theorem dX6_digest_72 : decode cX6_digest 72 = .ok (.invokevirtual 119, 3) := by decide +kernel
theorem dX6_digest_75 : decode cX6_digest 75 = .ok (.checkcast 173, 3) := by decide +kernel
theorem dX6_digest_78 : decode cX6_digest 78 = .ok (.getfield 257, 3) := by decide +kernel
theorem dX6_digest_81 : decode cX6_digest 81 = .ok (.getfield 261, 3) := by decide +kernel
theorem dX6_digest_84 : decode cX6_digest 84 = .ok (.i2l, 1) := by decide +kernel
theorem dX6_digest_85 : decode cX6_digest 85 = .ok (.ladd, 1) := by decide +kernel
theorem dX6_digest_86 : decode cX6_digest 86 = .ok (.lstore_n 1, 1) := by decide +kernel
theorem dX6_digest_87 : decode cX6_digest 87 = .ok (.lload_n 1, 1) := by decide +kernel
theorem dX6_digest_88 : decode cX6_digest 88 = .ok (.ldc2_w 245, 3) := by decide +kernel
theorem dX6_digest_91 : decode cX6_digest 91 = .ok (.lmul, 1) := by decide +kernel
theorem dX6_digest_92 : decode cX6_digest 92 = .ok (.aload_n 0, 1) := by decide +kernel
theorem dX6_digest_93 : decode cX6_digest 93 = .ok (.getfield 28, 3) := by decide +kernel
theorem dX6_digest_96 : decode cX6_digest 96 = .ok (.iload_n 3, 1) := by decide +kernel
theorem dX6_digest_97 : decode cX6_digest 97 = .ok (.invokevirtual 119, 3) := by decide +kernel
theorem dX6_digest_100 : decode cX6_digest 100 = .ok (.checkcast 173, 3) := by decide +kernel
theorem dX6_digest_103 : decode cX6_digest 103 = .ok (.getfield 264, 3) := by decide +kernel
theorem dX6_digest_106 : decode cX6_digest 106 = .ok (.i2l, 1) := by decide +kernel
theorem dX6_digest_107 : decode cX6_digest 107 = .ok (.ladd, 1) := by decide +kernel
theorem dX6_digest_108 : decode cX6_digest 108 = .ok (.lstore_n 1, 1) := by decide +kernel
theorem dX6_digest_109 : decode cX6_digest 109 = .ok (.iinc 3 1, 3) := by decide +kernel
theorem dX6_digest_112 : decode cX6_digest 112 = .ok (.goto (-61), 3) := by decide +kernel
theorem dX6_digest_115 : decode cX6_digest 115 = .ok (.lload_n 1, 1) := by decide +kernel
theorem dX6_digest_116 : decode cX6_digest 116 = .ok (.lreturn, 1) := by decide +kernel
theorem dX6_digestWinds_0 : decode cX6_digestWinds 0 = .ok (.lload_n 1, 1) := by decide +kernel
theorem dX6_digestWinds_1 : decode cX6_digestWinds 1 = .ok (.lstore_n 3, 1) := by decide +kernel
theorem dX6_digestWinds_2 : decode cX6_digestWinds 2 = .ok (.iconst 0, 1) := by decide +kernel
theorem dX6_digestWinds_3 : decode cX6_digestWinds 3 = .ok (.istore 5, 2) := by decide +kernel
theorem dX6_digestWinds_5 : decode cX6_digestWinds 5 = .ok (.iload 5, 2) := by decide +kernel
theorem dX6_digestWinds_7 : decode cX6_digestWinds 7 = .ok (.aload_n 0, 1) := by decide +kernel
theorem dX6_digestWinds_8 : decode cX6_digestWinds 8 = .ok (.getfield 21, 3) := by decide +kernel
theorem dX6_digestWinds_11 : decode cX6_digestWinds 11 = .ok (.invokevirtual 60, 3) := by decide +kernel
theorem dX6_digestWinds_14 : decode cX6_digestWinds 14 = .ok (.if_icmp .ge 49, 3) := by decide +kernel
theorem dX6_digestWinds_17 : decode cX6_digestWinds 17 = .ok (.iconst 0, 1) := by decide +kernel
theorem dX6_digestWinds_18 : decode cX6_digestWinds 18 = .ok (.istore 6, 2) := by decide +kernel
theorem dX6_digestWinds_20 : decode cX6_digestWinds 20 = .ok (.iload 6, 2) := by decide +kernel
theorem dX6_digestWinds_22 : decode cX6_digestWinds 22 = .ok (.iconst 3, 1) := by decide +kernel
theorem dX6_digestWinds_23 : decode cX6_digestWinds 23 = .ok (.if_icmp .ge 34, 3) := by decide +kernel
theorem dX6_digestWinds_26 : decode cX6_digestWinds 26 = .ok (.lload_n 3, 1) := by decide +kernel
theorem dX6_digestWinds_27 : decode cX6_digestWinds 27 = .ok (.ldc2_w 245, 3) := by decide +kernel
theorem dX6_digestWinds_30 : decode cX6_digestWinds 30 = .ok (.lmul, 1) := by decide +kernel
theorem dX6_digestWinds_31 : decode cX6_digestWinds 31 = .ok (.aload_n 0, 1) := by decide +kernel
theorem dX6_digestWinds_32 : decode cX6_digestWinds 32 = .ok (.getfield 21, 3) := by decide +kernel
theorem dX6_digestWinds_35 : decode cX6_digestWinds 35 = .ok (.iload 5, 2) := by decide +kernel
theorem dX6_digestWinds_37 : decode cX6_digestWinds 37 = .ok (.invokevirtual 119, 3) := by decide +kernel
theorem dX6_digestWinds_40 : decode cX6_digestWinds 40 = .ok (.checkcast 7, 3) := by decide +kernel
theorem dX6_digestWinds_43 : decode cX6_digestWinds 43 = .ok (.iload 6, 2) := by decide +kernel
theorem dX6_digestWinds_45 : decode cX6_digestWinds 45 = .ok (.invokevirtual 83, 3) := by decide +kernel
theorem dX6_digestWinds_48 : decode cX6_digestWinds 48 = .ok (.i2l, 1) := by decide +kernel
theorem dX6_digestWinds_49 : decode cX6_digestWinds 49 = .ok (.ladd, 1) := by decide +kernel
theorem dX6_digestWinds_50 : decode cX6_digestWinds 50 = .ok (.lstore_n 3, 1) := by decide +kernel
theorem dX6_digestWinds_51 : decode cX6_digestWinds 51 = .ok (.iinc 6 1, 3) := by decide +kernel
theorem dX6_digestWinds_54 : decode cX6_digestWinds 54 = .ok (.goto (-34), 3) := by decide +kernel
theorem dX6_digestWinds_57 : decode cX6_digestWinds 57 = .ok (.iinc 5 1, 3) := by decide +kernel
theorem dX6_digestWinds_60 : decode cX6_digestWinds 60 = .ok (.goto (-55), 3) := by decide +kernel
theorem dX6_digestWinds_63 : decode cX6_digestWinds 63 = .ok (.lload_n 3, 1) := by decide +kernel
theorem dX6_digestWinds_64 : decode cX6_digestWinds 64 = .ok (.lreturn, 1) := by decide +kernel
theorem dX6_digestVanes_0 : decode cX6_digestVanes 0 = .ok (.lload_n 1, 1) := by decide +kernel
theorem dX6_digestVanes_1 : decode cX6_digestVanes 1 = .ok (.lstore_n 3, 1) := by decide +kernel
theorem dX6_digestVanes_2 : decode cX6_digestVanes 2 = .ok (.iconst 0, 1) := by decide +kernel
theorem dX6_digestVanes_3 : decode cX6_digestVanes 3 = .ok (.istore 5, 2) := by decide +kernel
theorem dX6_digestVanes_5 : decode cX6_digestVanes 5 = .ok (.iload 5, 2) := by decide +kernel
theorem dX6_digestVanes_7 : decode cX6_digestVanes 7 = .ok (.aload_n 0, 1) := by decide +kernel
theorem dX6_digestVanes_8 : decode cX6_digestVanes 8 = .ok (.getfield 34, 3) := by decide +kernel
theorem dX6_digestVanes_11 : decode cX6_digestVanes 11 = .ok (.getfield 95, 3) := by decide +kernel
theorem dX6_digestVanes_14 : decode cX6_digestVanes 14 = .ok (.invokevirtual 60, 3) := by decide +kernel
theorem dX6_digestVanes_17 : decode cX6_digestVanes 17 = .ok (.if_icmp .ge 61, 3) := by decide +kernel
theorem dX6_digestVanes_20 : decode cX6_digestVanes 20 = .ok (.iconst 0, 1) := by decide +kernel
theorem dX6_digestVanes_21 : decode cX6_digestVanes 21 = .ok (.istore 6, 2) := by decide +kernel
theorem dX6_digestVanes_23 : decode cX6_digestVanes 23 = .ok (.iload 6, 2) := by decide +kernel
theorem dX6_digestVanes_25 : decode cX6_digestVanes 25 = .ok (.bipush 12, 2) := by decide +kernel
theorem dX6_digestVanes_27 : decode cX6_digestVanes 27 = .ok (.if_icmp .ge 45, 3) := by decide +kernel
theorem dX6_digestVanes_30 : decode cX6_digestVanes 30 = .ok (.lload_n 3, 1) := by decide +kernel
theorem dX6_digestVanes_31 : decode cX6_digestVanes 31 = .ok (.ldc2_w 245, 3) := by decide +kernel
theorem dX6_digestVanes_34 : decode cX6_digestVanes 34 = .ok (.lmul, 1) := by decide +kernel
theorem dX6_digestVanes_35 : decode cX6_digestVanes 35 = .ok (.aload_n 0, 1) := by decide +kernel
theorem dX6_digestVanes_36 : decode cX6_digestVanes 36 = .ok (.getfield 34, 3) := by decide +kernel
theorem dX6_digestVanes_39 : decode cX6_digestVanes 39 = .ok (.getfield 95, 3) := by decide +kernel
theorem dX6_digestVanes_42 : decode cX6_digestVanes 42 = .ok (.iload 5, 2) := by decide +kernel
theorem dX6_digestVanes_44 : decode cX6_digestVanes 44 = .ok (.invokevirtual 119, 3) := by decide +kernel
theorem dX6_digestVanes_47 : decode cX6_digestVanes 47 = .ok (.checkcast 109, 3) := by decide +kernel
theorem dX6_digestVanes_50 : decode cX6_digestVanes 50 = .ok (.iload 6, 2) := by decide +kernel
theorem dX6_digestVanes_52 : decode cX6_digestVanes 52 = .ok (.aload_n 0, 1) := by decide +kernel
theorem dX6_digestVanes_53 : decode cX6_digestVanes 53 = .ok (.aload_n 0, 1) := by decide +kernel
theorem dX6_digestVanes_54 : decode cX6_digestVanes 54 = .ok (.getfield 145, 3) := by decide +kernel
theorem dX6_digestVanes_57 : decode cX6_digestVanes 57 = .ok (.invokevirtual 79, 3) := by decide +kernel
theorem dX6_digestVanes_60 : decode cX6_digestVanes 60 = .ok (.invokevirtual 148, 3) := by decide +kernel
theorem dX6_digestVanes_63 : decode cX6_digestVanes 63 = .ok (.i2l, 1) := by decide +kernel
theorem dX6_digestVanes_64 : decode cX6_digestVanes 64 = .ok (.ladd, 1) := by decide +kernel
theorem dX6_digestVanes_65 : decode cX6_digestVanes 65 = .ok (.lstore_n 3, 1) := by decide +kernel
theorem dX6_digestVanes_66 : decode cX6_digestVanes 66 = .ok (.iinc 6 1, 3) := by decide +kernel
theorem dX6_digestVanes_69 : decode cX6_digestVanes 69 = .ok (.goto (-46), 3) := by decide +kernel
theorem dX6_digestVanes_72 : decode cX6_digestVanes 72 = .ok (.iinc 5 1, 3) := by decide +kernel
theorem dX6_digestVanes_75 : decode cX6_digestVanes 75 = .ok (.goto (-70), 3) := by decide +kernel
theorem dX6_digestVanes_78 : decode cX6_digestVanes 78 = .ok (.lload_n 3, 1) := by decide +kernel
theorem dX6_digestVanes_79 : decode cX6_digestVanes 79 = .ok (.lreturn, 1) := by decide +kernel
theorem dX6_digestMotions_0 : decode cX6_digestMotions 0 = .ok (.lload_n 1, 1) := by decide +kernel
theorem dX6_digestMotions_1 : decode cX6_digestMotions 1 = .ok (.lstore_n 3, 1) := by decide +kernel
theorem dX6_digestMotions_2 : decode cX6_digestMotions 2 = .ok (.iconst 0, 1) := by decide +kernel
theorem dX6_digestMotions_3 : decode cX6_digestMotions 3 = .ok (.istore 5, 2) := by decide +kernel
theorem dX6_digestMotions_5 : decode cX6_digestMotions 5 = .ok (.iload 5, 2) := by decide +kernel
theorem dX6_digestMotions_7 : decode cX6_digestMotions 7 = .ok (.aload_n 0, 1) := by decide +kernel
theorem dX6_digestMotions_8 : decode cX6_digestMotions 8 = .ok (.getfield 25, 3) := by decide +kernel
theorem dX6_digestMotions_11 : decode cX6_digestMotions 11 = .ok (.invokevirtual 60, 3) := by decide +kernel
theorem dX6_digestMotions_14 : decode cX6_digestMotions 14 = .ok (.if_icmp .ge 54, 3) := by decide +kernel
theorem dX6_digestMotions_17 : decode cX6_digestMotions 17 = .ok (.iconst 0, 1) := by decide +kernel
theorem dX6_digestMotions_18 : decode cX6_digestMotions 18 = .ok (.istore 6, 2) := by decide +kernel
theorem dX6_digestMotions_20 : decode cX6_digestMotions 20 = .ok (.iload 6, 2) := by decide +kernel
theorem dX6_digestMotions_22 : decode cX6_digestMotions 22 = .ok (.bipush 9, 2) := by decide +kernel
theorem dX6_digestMotions_24 : decode cX6_digestMotions 24 = .ok (.if_icmp .ge 38, 3) := by decide +kernel
theorem dX6_digestMotions_27 : decode cX6_digestMotions 27 = .ok (.lload_n 3, 1) := by decide +kernel
theorem dX6_digestMotions_28 : decode cX6_digestMotions 28 = .ok (.ldc2_w 245, 3) := by decide +kernel
theorem dX6_digestMotions_31 : decode cX6_digestMotions 31 = .ok (.lmul, 1) := by decide +kernel
theorem dX6_digestMotions_32 : decode cX6_digestMotions 32 = .ok (.aload_n 0, 1) := by decide +kernel
theorem dX6_digestMotions_33 : decode cX6_digestMotions 33 = .ok (.getfield 25, 3) := by decide +kernel
theorem dX6_digestMotions_36 : decode cX6_digestMotions 36 = .ok (.iload 5, 2) := by decide +kernel
theorem dX6_digestMotions_38 : decode cX6_digestMotions 38 = .ok (.invokevirtual 119, 3) := by decide +kernel
theorem dX6_digestMotions_41 : decode cX6_digestMotions 41 = .ok (.checkcast 159, 3) := by decide +kernel
theorem dX6_digestMotions_44 : decode cX6_digestMotions 44 = .ok (.iload 6, 2) := by decide +kernel
theorem dX6_digestMotions_46 : decode cX6_digestMotions 46 = .ok (.aload_n 0, 1) := by decide +kernel
theorem dX6_digestMotions_47 : decode cX6_digestMotions 47 = .ok (.getfield 34, 3) := by decide +kernel
theorem dX6_digestMotions_50 : decode cX6_digestMotions 50 = .ok (.invokevirtual 180, 3) := by decide +kernel
theorem dX6_digestMotions_53 : decode cX6_digestMotions 53 = .ok (.i2l, 1) := by decide +kernel
theorem dX6_digestMotions_54 : decode cX6_digestMotions 54 = .ok (.ladd, 1) := by decide +kernel
theorem dX6_digestMotions_55 : decode cX6_digestMotions 55 = .ok (.lstore_n 3, 1) := by decide +kernel
theorem dX6_digestMotions_56 : decode cX6_digestMotions 56 = .ok (.iinc 6 1, 3) := by decide +kernel
theorem dX6_digestMotions_59 : decode cX6_digestMotions 59 = .ok (.goto (-39), 3) := by decide +kernel
theorem dX6_digestMotions_62 : decode cX6_digestMotions 62 = .ok (.iinc 5 1, 3) := by decide +kernel
theorem dX6_digestMotions_65 : decode cX6_digestMotions 65 = .ok (.goto (-60), 3) := by decide +kernel
theorem dX6_digestMotions_68 : decode cX6_digestMotions 68 = .ok (.lload_n 3, 1) := by decide +kernel
theorem dX6_digestMotions_69 : decode cX6_digestMotions 69 = .ok (.lreturn, 1) := by decide +kernel
theorem dX6_tally_0 : decode cX6_tally 0 = .ok (.iload_n 1, 1) := by decide +kernel
theorem dX6_tally_1 : decode cX6_tally 1 = .ok (.tableswitch 108 0 7 #[47, 52, 63, 71, 79, 87, 95, 100], 47) := by decide +kernel
theorem dX6_tally_48 : decode cX6_tally 48 = .ok (.aload_n 0, 1) := by decide +kernel
theorem dX6_tally_49 : decode cX6_tally 49 = .ok (.getfield 145, 3) := by decide +kernel
theorem dX6_tally_52 : decode cX6_tally 52 = .ok (.ireturn, 1) := by decide +kernel
theorem dX6_tally_53 : decode cX6_tally 53 = .ok (.aload_n 0, 1) := by decide +kernel
theorem dX6_tally_54 : decode cX6_tally 54 = .ok (.getfield 34, 3) := by decide +kernel
theorem dX6_tally_57 : decode cX6_tally 57 = .ok (.getfield 95, 3) := by decide +kernel
theorem dX6_tally_60 : decode cX6_tally 60 = .ok (.invokevirtual 60, 3) := by decide +kernel
theorem dX6_tally_63 : decode cX6_tally 63 = .ok (.ireturn, 1) := by decide +kernel
theorem dX6_tally_64 : decode cX6_tally 64 = .ok (.aload_n 0, 1) := by decide +kernel
theorem dX6_tally_65 : decode cX6_tally 65 = .ok (.getfield 25, 3) := by decide +kernel
theorem dX6_tally_68 : decode cX6_tally 68 = .ok (.invokevirtual 60, 3) := by decide +kernel
theorem dX6_tally_71 : decode cX6_tally 71 = .ok (.ireturn, 1) := by decide +kernel
theorem dX6_tally_72 : decode cX6_tally 72 = .ok (.aload_n 0, 1) := by decide +kernel
theorem dX6_tally_73 : decode cX6_tally 73 = .ok (.getfield 21, 3) := by decide +kernel
theorem dX6_tally_76 : decode cX6_tally 76 = .ok (.invokevirtual 60, 3) := by decide +kernel
theorem dX6_tally_79 : decode cX6_tally 79 = .ok (.ireturn, 1) := by decide +kernel
theorem dX6_tally_80 : decode cX6_tally 80 = .ok (.aload_n 0, 1) := by decide +kernel
theorem dX6_tally_81 : decode cX6_tally 81 = .ok (.getfield 28, 3) := by decide +kernel
theorem dX6_tally_84 : decode cX6_tally 84 = .ok (.invokevirtual 60, 3) := by decide +kernel
theorem dX6_tally_87 : decode cX6_tally 87 = .ok (.ireturn, 1) := by decide +kernel
theorem dX6_tally_88 : decode cX6_tally 88 = .ok (.aload_n 0, 1) := by decide +kernel
theorem dX6_tally_89 : decode cX6_tally 89 = .ok (.getfield 34, 3) := by decide +kernel
theorem dX6_tally_92 : decode cX6_tally 92 = .ok (.invokevirtual 220, 3) := by decide +kernel
theorem dX6_tally_95 : decode cX6_tally 95 = .ok (.ireturn, 1) := by decide +kernel
theorem dX6_tally_96 : decode cX6_tally 96 = .ok (.aload_n 0, 1) := by decide +kernel
theorem dX6_tally_97 : decode cX6_tally 97 = .ok (.getfield 199, 3) := by decide +kernel
theorem dX6_tally_100 : decode cX6_tally 100 = .ok (.ireturn, 1) := by decide +kernel
theorem dX6_tally_101 : decode cX6_tally 101 = .ok (.aload_n 0, 1) := by decide +kernel
theorem dX6_tally_102 : decode cX6_tally 102 = .ok (.getfield 34, 3) := by decide +kernel
theorem dX6_tally_105 : decode cX6_tally 105 = .ok (.invokevirtual 265, 3) := by decide +kernel
theorem dX6_tally_108 : decode cX6_tally 108 = .ok (.ireturn, 1) := by decide +kernel
theorem dX6_tally_109 : decode cX6_tally 109 = .ok (.aload_n 0, 1) := by decide +kernel
theorem dX6_tally_110 : decode cX6_tally 110 = .ok (.getfield 34, 3) := by decide +kernel
theorem dX6_tally_113 : decode cX6_tally 113 = .ok (.aload_n 0, 1) := by decide +kernel
theorem dX6_tally_114 : decode cX6_tally 114 = .ok (.aload_n 0, 1) := by decide +kernel
theorem dX6_tally_115 : decode cX6_tally 115 = .ok (.getfield 145, 3) := by decide +kernel
theorem dX6_tally_118 : decode cX6_tally 118 = .ok (.invokevirtual 79, 3) := by decide +kernel
theorem dX6_tally_121 : decode cX6_tally 121 = .ok (.invokevirtual 268, 3) := by decide +kernel
theorem dX6_tally_124 : decode cX6_tally 124 = .ok (.ireturn, 1) := by decide +kernel
theorem dX6_windAt_0 : decode cX6_windAt 0 = .ok (.aload_n 0, 1) := by decide +kernel
theorem dX6_windAt_1 : decode cX6_windAt 1 = .ok (.getfield 21, 3) := by decide +kernel
theorem dX6_windAt_4 : decode cX6_windAt 4 = .ok (.invokevirtual 60, 3) := by decide +kernel
theorem dX6_windAt_7 : decode cX6_windAt 7 = .ok (.istore_n 2, 1) := by decide +kernel
theorem dX6_windAt_8 : decode cX6_windAt 8 = .ok (.iload_n 2, 1) := by decide +kernel
theorem dX6_windAt_9 : decode cX6_windAt 9 = .ok (.iconst 1, 1) := by decide +kernel
theorem dX6_windAt_10 : decode cX6_windAt 10 = .ok (.if_icmp .lt 7, 3) := by decide +kernel
theorem dX6_windAt_13 : decode cX6_windAt 13 = .ok (.iload_n 1, 1) := by decide +kernel
theorem dX6_windAt_14 : decode cX6_windAt 14 = .ok (.ifCond .ge 8, 3) := by decide +kernel
theorem dX6_windAt_17 : decode cX6_windAt 17 = .ok (.aload_n 0, 1) := by decide +kernel
theorem dX6_windAt_18 : decode cX6_windAt 18 = .ok (.getfield 12, 3) := by decide +kernel
theorem dX6_windAt_21 : decode cX6_windAt 21 = .ok (.areturn, 1) := by decide +kernel
theorem dX6_windAt_22 : decode cX6_windAt 22 = .ok (.aload_n 0, 1) := by decide +kernel
theorem dX6_windAt_23 : decode cX6_windAt 23 = .ok (.getfield 21, 3) := by decide +kernel
theorem dX6_windAt_26 : decode cX6_windAt 26 = .ok (.iload_n 1, 1) := by decide +kernel
theorem dX6_windAt_27 : decode cX6_windAt 27 = .ok (.iload_n 2, 1) := by decide +kernel
theorem dX6_windAt_28 : decode cX6_windAt 28 = .ok (.irem, 1) := by decide +kernel
theorem dX6_windAt_29 : decode cX6_windAt 29 = .ok (.invokevirtual 119, 3) := by decide +kernel
theorem dX6_windAt_32 : decode cX6_windAt 32 = .ok (.checkcast 7, 3) := by decide +kernel
theorem dX6_windAt_35 : decode cX6_windAt 35 = .ok (.areturn, 1) := by decide +kernel
theorem dX6_voteAndRain_0 : decode cX6_voteAndRain 0 = .ok (.iconst 0, 1) := by decide +kernel
theorem dX6_voteAndRain_1 : decode cX6_voteAndRain 1 = .ok (.istore 4, 2) := by decide +kernel
theorem dX6_voteAndRain_3 : decode cX6_voteAndRain 3 = .ok (.iconst 0, 1) := by decide +kernel
theorem dX6_voteAndRain_4 : decode cX6_voteAndRain 4 = .ok (.istore 5, 2) := by decide +kernel
theorem dX6_voteAndRain_6 : decode cX6_voteAndRain 6 = .ok (.iload 5, 2) := by decide +kernel
theorem dX6_voteAndRain_8 : decode cX6_voteAndRain 8 = .ok (.aload_n 0, 1) := by decide +kernel
theorem dX6_voteAndRain_9 : decode cX6_voteAndRain 9 = .ok (.getfield 28, 3) := by decide +kernel
theorem dX6_voteAndRain_12 : decode cX6_voteAndRain 12 = .ok (.invokevirtual 60, 3) := by decide +kernel
theorem dX6_voteAndRain_15 : decode cX6_voteAndRain 15 = .ok (.if_icmp .ge 77, 3) := by decide +kernel
theorem dX6_voteAndRain_18 : decode cX6_voteAndRain 18 = .ok (.aload_n 0, 1) := by decide +kernel
theorem dX6_voteAndRain_19 : decode cX6_voteAndRain 19 = .ok (.getfield 28, 3) := by decide +kernel
theorem dX6_voteAndRain_22 : decode cX6_voteAndRain 22 = .ok (.iload 5, 2) := by decide +kernel
theorem dX6_voteAndRain_24 : decode cX6_voteAndRain 24 = .ok (.invokevirtual 119, 3) := by decide +kernel
theorem dX6_voteAndRain_27 : decode cX6_voteAndRain 27 = .ok (.checkcast 173, 3) := by decide +kernel
theorem dX6_voteAndRain_30 : decode cX6_voteAndRain 30 = .ok (.astore 6, 2) := by decide +kernel
theorem dX6_voteAndRain_32 : decode cX6_voteAndRain 32 = .ok (.aload 6, 2) := by decide +kernel
theorem dX6_voteAndRain_34 : decode cX6_voteAndRain 34 = .ok (.getfield 264, 3) := by decide +kernel
theorem dX6_voteAndRain_37 : decode cX6_voteAndRain 37 = .ok (.iload_n 2, 1) := by decide +kernel
theorem dX6_voteAndRain_38 : decode cX6_voteAndRain 38 = .ok (.if_icmp .eq 6, 3) := by decide +kernel
theorem dX6_voteAndRain_41 : decode cX6_voteAndRain 41 = .ok (.goto 45, 3) := by decide +kernel
theorem dX6_voteAndRain_44 : decode cX6_voteAndRain 44 = .ok (.aload_n 1, 1) := by decide +kernel
theorem dX6_voteAndRain_45 : decode cX6_voteAndRain 45 = .ok (.aload 6, 2) := by decide +kernel
theorem dX6_voteAndRain_47 : decode cX6_voteAndRain 47 = .ok (.getfield 257, 3) := by decide +kernel
theorem dX6_voteAndRain_50 : decode cX6_voteAndRain 50 = .ok (.invokevirtual 272, 3) := by decide +kernel
theorem dX6_voteAndRain_53 : decode cX6_voteAndRain 53 = .ok (.istore 7, 2) := by decide +kernel
theorem dX6_voteAndRain_55 : decode cX6_voteAndRain 55 = .ok (.iload 7, 2) := by decide +kernel
theorem dX6_voteAndRain_57 : decode cX6_voteAndRain 57 = .ok (.ifCond .eq 15, 3) := by decide +kernel
theorem dX6_voteAndRain_60 : decode cX6_voteAndRain 60 = .ok (.aload_n 1, 1) := by decide +kernel
theorem dX6_voteAndRain_61 : decode cX6_voteAndRain 61 = .ok (.aload 6, 2) := by decide +kernel
theorem dX6_voteAndRain_63 : decode cX6_voteAndRain 63 = .ok (.getfield 257, 3) := by decide +kernel
theorem dX6_voteAndRain_66 : decode cX6_voteAndRain 66 = .ok (.invokevirtual 276, 3) := by decide +kernel
theorem dX6_voteAndRain_69 : decode cX6_voteAndRain 69 = .ok (.iinc 4 1, 3) := by decide +kernel
theorem dX6_voteAndRain_72 : decode cX6_voteAndRain 72 = .ok (.iload_n 3, 1) := by decide +kernel
theorem dX6_voteAndRain_73 : decode cX6_voteAndRain 73 = .ok (.ifCond .eq 13, 3) := by decide +kernel
theorem dX6_voteAndRain_76 : decode cX6_voteAndRain 76 = .ok (.aload 6, 2) := by decide +kernel
theorem dX6_voteAndRain_78 : decode cX6_voteAndRain 78 = .ok (.getfield 257, 3) := by decide +kernel
theorem dX6_voteAndRain_81 : decode cX6_voteAndRain 81 = .ok (.iload 7, 2) := by decide +kernel
theorem dX6_voteAndRain_83 : decode cX6_voteAndRain 83 = .ok (.invokevirtual 280, 3) := by decide +kernel
theorem dX6_voteAndRain_86 : decode cX6_voteAndRain 86 = .ok (.iinc 5 1, 3) := by decide +kernel
theorem dX6_voteAndRain_89 : decode cX6_voteAndRain 89 = .ok (.goto (-83), 3) := by decide +kernel
theorem dX6_voteAndRain_92 : decode cX6_voteAndRain 92 = .ok (.aload_n 0, 1) := by decide +kernel
theorem dX6_voteAndRain_93 : decode cX6_voteAndRain 93 = .ok (.iload_n 2, 1) := by decide +kernel
theorem dX6_voteAndRain_94 : decode cX6_voteAndRain 94 = .ok (.invokevirtual 79, 3) := by decide +kernel
theorem dX6_voteAndRain_97 : decode cX6_voteAndRain 97 = .ok (.getfield 284, 3) := by decide +kernel
theorem dX6_voteAndRain_100 : decode cX6_voteAndRain 100 = .ok (.ifCond .eq 7, 3) := by decide +kernel
theorem dX6_voteAndRain_103 : decode cX6_voteAndRain 103 = .ok (.aload_n 1, 1) := by decide +kernel
theorem dX6_voteAndRain_104 : decode cX6_voteAndRain 104 = .ok (.invokevirtual 288, 3) := by decide +kernel
theorem dX6_voteAndRain_107 : decode cX6_voteAndRain 107 = .ok (.iload 4, 2) := by decide +kernel
theorem dX6_voteAndRain_109 : decode cX6_voteAndRain 109 = .ok (.ireturn, 1) := by decide +kernel
theorem dX6_hoursUntilItPasses_0 : decode cX6_hoursUntilItPasses 0 = .ok (.iconst 0, 1) := by decide +kernel
theorem dX6_hoursUntilItPasses_1 : decode cX6_hoursUntilItPasses 1 = .ok (.istore_n 3, 1) := by decide +kernel
theorem dX6_hoursUntilItPasses_2 : decode cX6_hoursUntilItPasses 2 = .ok (.iload_n 3, 1) := by decide +kernel
theorem dX6_hoursUntilItPasses_3 : decode cX6_hoursUntilItPasses 3 = .ok (.iload_n 2, 1) := by decide +kernel
theorem dX6_hoursUntilItPasses_4 : decode cX6_hoursUntilItPasses 4 = .ok (.if_icmp .ge 55, 3) := by decide +kernel
theorem dX6_hoursUntilItPasses_7 : decode cX6_hoursUntilItPasses 7 = .ok (.aload_n 0, 1) := by decide +kernel
theorem dX6_hoursUntilItPasses_8 : decode cX6_hoursUntilItPasses 8 = .ok (.getfield 38, 3) := by decide +kernel
theorem dX6_hoursUntilItPasses_11 : decode cX6_hoursUntilItPasses 11 = .ok (.aload_n 0, 1) := by decide +kernel
theorem dX6_hoursUntilItPasses_12 : decode cX6_hoursUntilItPasses 12 = .ok (.aload_n 0, 1) := by decide +kernel
theorem dX6_hoursUntilItPasses_13 : decode cX6_hoursUntilItPasses 13 = .ok (.getfield 145, 3) := by decide +kernel
theorem dX6_hoursUntilItPasses_16 : decode cX6_hoursUntilItPasses 16 = .ok (.iload_n 3, 1) := by decide +kernel
theorem dX6_hoursUntilItPasses_17 : decode cX6_hoursUntilItPasses 17 = .ok (.iadd, 1) := by decide +kernel
theorem dX6_hoursUntilItPasses_18 : decode cX6_hoursUntilItPasses 18 = .ok (.invokevirtual 79, 3) := by decide +kernel
theorem dX6_hoursUntilItPasses_21 : decode cX6_hoursUntilItPasses 21 = .ok (.invokevirtual 191, 3) := by decide +kernel
theorem dX6_hoursUntilItPasses_24 : decode cX6_hoursUntilItPasses 24 = .ok (.aload_n 0, 1) := by decide +kernel
theorem dX6_hoursUntilItPasses_25 : decode cX6_hoursUntilItPasses 25 = .ok (.getfield 38, 3) := by decide +kernel
theorem dX6_hoursUntilItPasses_28 : decode cX6_hoursUntilItPasses 28 = .ok (.aload_n 1, 1) := by decide +kernel
theorem dX6_hoursUntilItPasses_29 : decode cX6_hoursUntilItPasses 29 = .ok (.invokevirtual 272, 3) := by decide +kernel
theorem dX6_hoursUntilItPasses_32 : decode cX6_hoursUntilItPasses 32 = .ok (.ifCond .eq 5, 3) := by decide +kernel
theorem dX6_hoursUntilItPasses_35 : decode cX6_hoursUntilItPasses 35 = .ok (.iload_n 3, 1) := by decide +kernel
theorem dX6_hoursUntilItPasses_36 : decode cX6_hoursUntilItPasses 36 = .ok (.ireturn, 1) := by decide +kernel
theorem dX6_hoursUntilItPasses_37 : decode cX6_hoursUntilItPasses 37 = .ok (.aload_n 0, 1) := by decide +kernel
theorem dX6_hoursUntilItPasses_38 : decode cX6_hoursUntilItPasses 38 = .ok (.aload_n 0, 1) := by decide +kernel
theorem dX6_hoursUntilItPasses_39 : decode cX6_hoursUntilItPasses 39 = .ok (.getfield 38, 3) := by decide +kernel
theorem dX6_hoursUntilItPasses_42 : decode cX6_hoursUntilItPasses 42 = .ok (.aload_n 0, 1) := by decide +kernel
theorem dX6_hoursUntilItPasses_43 : decode cX6_hoursUntilItPasses 43 = .ok (.getfield 145, 3) := by decide +kernel
theorem dX6_hoursUntilItPasses_46 : decode cX6_hoursUntilItPasses 46 = .ok (.iload_n 3, 1) := by decide +kernel
theorem dX6_hoursUntilItPasses_47 : decode cX6_hoursUntilItPasses 47 = .ok (.iadd, 1) := by decide +kernel
theorem dX6_hoursUntilItPasses_48 : decode cX6_hoursUntilItPasses 48 = .ok (.iconst 0, 1) := by decide +kernel
theorem dX6_hoursUntilItPasses_49 : decode cX6_hoursUntilItPasses 49 = .ok (.invokevirtual 195, 3) := by decide +kernel
theorem dX6_hoursUntilItPasses_52 : decode cX6_hoursUntilItPasses 52 = .ok (.pop, 1) := by decide +kernel
theorem dX6_hoursUntilItPasses_53 : decode cX6_hoursUntilItPasses 53 = .ok (.iinc 3 1, 3) := by decide +kernel
theorem dX6_hoursUntilItPasses_56 : decode cX6_hoursUntilItPasses 56 = .ok (.goto (-54), 3) := by decide +kernel
theorem dX6_hoursUntilItPasses_59 : decode cX6_hoursUntilItPasses 59 = .ok (.iload_n 2, 1) := by decide +kernel
theorem dX6_hoursUntilItPasses_60 : decode cX6_hoursUntilItPasses 60 = .ok (.ireturn, 1) := by decide +kernel
theorem dX6_dropPastEntries_0 : decode cX6_dropPastEntries 0 = .ok (.aload_n 0, 1) := by decide +kernel
theorem dX6_dropPastEntries_1 : decode cX6_dropPastEntries 1 = .ok (.getfield 28, 3) := by decide +kernel
theorem dX6_dropPastEntries_4 : decode cX6_dropPastEntries 4 = .ok (.invokevirtual 60, 3) := by decide +kernel
theorem dX6_dropPastEntries_7 : decode cX6_dropPastEntries 7 = .ok (.iconst 1, 1) := by decide +kernel
theorem dX6_dropPastEntries_8 : decode cX6_dropPastEntries 8 = .ok (.isub, 1) := by decide +kernel
theorem dX6_dropPastEntries_9 : decode cX6_dropPastEntries 9 = .ok (.istore_n 1, 1) := by decide +kernel
theorem dX6_dropPastEntries_10 : decode cX6_dropPastEntries 10 = .ok (.iload_n 1, 1) := by decide +kernel
theorem dX6_dropPastEntries_11 : decode cX6_dropPastEntries 11 = .ok (.ifCond .lt 39, 3) := by decide +kernel
theorem dX6_dropPastEntries_14 : decode cX6_dropPastEntries 14 = .ok (.aload_n 0, 1) := by decide +kernel
theorem dX6_dropPastEntries_15 : decode cX6_dropPastEntries 15 = .ok (.getfield 28, 3) := by decide +kernel
theorem dX6_dropPastEntries_18 : decode cX6_dropPastEntries 18 = .ok (.iload_n 1, 1) := by decide +kernel
theorem dX6_dropPastEntries_19 : decode cX6_dropPastEntries 19 = .ok (.invokevirtual 119, 3) := by decide +kernel
theorem dX6_dropPastEntries_22 : decode cX6_dropPastEntries 22 = .ok (.checkcast 173, 3) := by decide +kernel
theorem dX6_dropPastEntries_25 : decode cX6_dropPastEntries 25 = .ok (.getfield 264, 3) := by decide +kernel
theorem dX6_dropPastEntries_28 : decode cX6_dropPastEntries 28 = .ok (.aload_n 0, 1) := by decide +kernel
theorem dX6_dropPastEntries_29 : decode cX6_dropPastEntries 29 = .ok (.getfield 145, 3) := by decide +kernel
theorem dX6_dropPastEntries_32 : decode cX6_dropPastEntries 32 = .ok (.if_icmp .ge 12, 3) := by decide +kernel
theorem dX6_dropPastEntries_35 : decode cX6_dropPastEntries 35 = .ok (.aload_n 0, 1) := by decide +kernel
theorem dX6_dropPastEntries_36 : decode cX6_dropPastEntries 36 = .ok (.getfield 28, 3) := by decide +kernel
theorem dX6_dropPastEntries_39 : decode cX6_dropPastEntries 39 = .ok (.iload_n 1, 1) := by decide +kernel
theorem dX6_dropPastEntries_40 : decode cX6_dropPastEntries 40 = .ok (.invokevirtual 291, 3) := by decide +kernel
theorem dX6_dropPastEntries_43 : decode cX6_dropPastEntries 43 = .ok (.pop, 1) := by decide +kernel
theorem dX6_dropPastEntries_44 : decode cX6_dropPastEntries 44 = .ok (.iinc 1 (-1), 3) := by decide +kernel
theorem dX6_dropPastEntries_47 : decode cX6_dropPastEntries 47 = .ok (.goto (-37), 3) := by decide +kernel
theorem dX6_dropPastEntries_50 : decode cX6_dropPastEntries 50 = .ok (.return_, 1) := by decide +kernel
theorem dX6_isVane_0 : decode cX6_isVane 0 = .ok (.iload_n 1, 1) := by decide +kernel
theorem dX6_isVane_1 : decode cX6_isVane 1 = .ok (.ifCond .lt 21, 3) := by decide +kernel
theorem dX6_isVane_4 : decode cX6_isVane 4 = .ok (.iload_n 1, 1) := by decide +kernel
theorem dX6_isVane_5 : decode cX6_isVane 5 = .ok (.aload_n 0, 1) := by decide +kernel
theorem dX6_isVane_6 : decode cX6_isVane 6 = .ok (.getfield 34, 3) := by decide +kernel
theorem dX6_isVane_9 : decode cX6_isVane 9 = .ok (.getfield 95, 3) := by decide +kernel
theorem dX6_isVane_12 : decode cX6_isVane 12 = .ok (.invokevirtual 60, 3) := by decide +kernel
theorem dX6_isVane_15 : decode cX6_isVane 15 = .ok (.if_icmp .ge 7, 3) := by decide +kernel
theorem dX6_isVane_18 : decode cX6_isVane 18 = .ok (.iconst 1, 1) := by decide +kernel
theorem dX6_isVane_19 : decode cX6_isVane 19 = .ok (.goto 4, 3) := by decide +kernel
theorem dX6_isVane_22 : decode cX6_isVane 22 = .ok (.iconst 0, 1) := by decide +kernel
theorem dX6_isVane_23 : decode cX6_isVane 23 = .ok (.ireturn, 1) := by decide +kernel
theorem dX6_isMotion_0 : decode cX6_isMotion 0 = .ok (.iload_n 1, 1) := by decide +kernel
theorem dX6_isMotion_1 : decode cX6_isMotion 1 = .ok (.ifCond .lt 18, 3) := by decide +kernel
theorem dX6_isMotion_4 : decode cX6_isMotion 4 = .ok (.iload_n 1, 1) := by decide +kernel
theorem dX6_isMotion_5 : decode cX6_isMotion 5 = .ok (.aload_n 0, 1) := by decide +kernel
theorem dX6_isMotion_6 : decode cX6_isMotion 6 = .ok (.getfield 25, 3) := by decide +kernel
theorem dX6_isMotion_9 : decode cX6_isMotion 9 = .ok (.invokevirtual 60, 3) := by decide +kernel
theorem dX6_isMotion_12 : decode cX6_isMotion 12 = .ok (.if_icmp .ge 7, 3) := by decide +kernel
theorem dX6_isMotion_15 : decode cX6_isMotion 15 = .ok (.iconst 1, 1) := by decide +kernel
theorem dX6_isMotion_16 : decode cX6_isMotion 16 = .ok (.goto 4, 3) := by decide +kernel
theorem dX6_isMotion_19 : decode cX6_isMotion 19 = .ok (.iconst 0, 1) := by decide +kernel
theorem dX6_isMotion_20 : decode cX6_isMotion 20 = .ok (.ireturn, 1) := by decide +kernel
theorem dX6_isDirection_0 : decode cX6_isDirection 0 = .ok (.iload_n 0, 1) := by decide +kernel
theorem dX6_isDirection_1 : decode cX6_isDirection 1 = .ok (.ifCond .lt 13, 3) := by decide +kernel
theorem dX6_isDirection_4 : decode cX6_isDirection 4 = .ok (.iload_n 0, 1) := by decide +kernel
theorem dX6_isDirection_5 : decode cX6_isDirection 5 = .ok (.bipush 16, 2) := by decide +kernel
theorem dX6_isDirection_7 : decode cX6_isDirection 7 = .ok (.if_icmp .ge 7, 3) := by decide +kernel
theorem dX6_isDirection_10 : decode cX6_isDirection 10 = .ok (.iconst 1, 1) := by decide +kernel
theorem dX6_isDirection_11 : decode cX6_isDirection 11 = .ok (.goto 4, 3) := by decide +kernel
theorem dX6_isDirection_14 : decode cX6_isDirection 14 = .ok (.iconst 0, 1) := by decide +kernel
theorem dX6_isDirection_15 : decode cX6_isDirection 15 = .ok (.ireturn, 1) := by decide +kernel
theorem dX6_isWithin_0 : decode cX6_isWithin 0 = .ok (.iload_n 0, 1) := by decide +kernel
theorem dX6_isWithin_1 : decode cX6_isWithin 1 = .ok (.iload_n 1, 1) := by decide +kernel
theorem dX6_isWithin_2 : decode cX6_isWithin 2 = .ok (.if_icmp .lt 12, 3) := by decide +kernel
theorem dX6_isWithin_5 : decode cX6_isWithin 5 = .ok (.iload_n 0, 1) := by decide +kernel
theorem dX6_isWithin_6 : decode cX6_isWithin 6 = .ok (.iload_n 2, 1) := by decide +kernel
theorem dX6_isWithin_7 : decode cX6_isWithin 7 = .ok (.if_icmp .gt 7, 3) := by decide +kernel
theorem dX6_isWithin_10 : decode cX6_isWithin 10 = .ok (.iconst 1, 1) := by decide +kernel
theorem dX6_isWithin_11 : decode cX6_isWithin 11 = .ok (.goto 4, 3) := by decide +kernel
theorem dX6_isWithin_14 : decode cX6_isWithin 14 = .ok (.iconst 0, 1) := by decide +kernel
theorem dX6_isWithin_15 : decode cX6_isWithin 15 = .ok (.ireturn, 1) := by decide +kernel
theorem dX6_steps_0 : decode cX6_steps 0 = .ok (.iload_n 1, 1) := by decide +kernel
theorem dX6_steps_1 : decode cX6_steps 1 = .ok (.iload_n 0, 1) := by decide +kernel
theorem dX6_steps_2 : decode cX6_steps 2 = .ok (.isub, 1) := by decide +kernel
theorem dX6_steps_3 : decode cX6_steps 3 = .ok (.bipush 7, 2) := by decide +kernel
theorem dX6_steps_5 : decode cX6_steps 5 = .ok (.iadd, 1) := by decide +kernel
theorem dX6_steps_6 : decode cX6_steps 6 = .ok (.bipush 16, 2) := by decide +kernel
theorem dX6_steps_8 : decode cX6_steps 8 = .ok (.iadd, 1) := by decide +kernel
theorem dX6_steps_9 : decode cX6_steps 9 = .ok (.bipush 16, 2) := by decide +kernel
theorem dX6_steps_11 : decode cX6_steps 11 = .ok (.irem, 1) := by decide +kernel
theorem dX6_steps_12 : decode cX6_steps 12 = .ok (.bipush 7, 2) := by decide +kernel
theorem dX6_steps_14 : decode cX6_steps 14 = .ok (.isub, 1) := by decide +kernel
theorem dX6_steps_15 : decode cX6_steps 15 = .ok (.ireturn, 1) := by decide +kernel
theorem dX6_distance_0 : decode cX6_distance 0 = .ok (.iload_n 0, 1) := by decide +kernel
theorem dX6_distance_1 : decode cX6_distance 1 = .ok (.iload_n 1, 1) := by decide +kernel
theorem dX6_distance_2 : decode cX6_distance 2 = .ok (.invokestatic 151, 3) := by decide +kernel
theorem dX6_distance_5 : decode cX6_distance 5 = .ok (.invokestatic 294, 3) := by decide +kernel
theorem dX6_distance_8 : decode cX6_distance 8 = .ok (.ireturn, 1) := by decide +kernel
theorem dX7_init_0 : decode cX7_init 0 = .ok (.aload_n 0, 1) := by decide +kernel
theorem dX7_init_1 : decode cX7_init 1 = .ok (.invokespecial 3, 3) := by decide +kernel
theorem dX7_init_4 : decode cX7_init 4 = .ok (.aload_n 0, 1) := by decide +kernel
theorem dX7_init_5 : decode cX7_init 5 = .ok (.iconst 1, 1) := by decide +kernel
theorem dX7_init_6 : decode cX7_init 6 = .ok (.putfield 9, 3) := by decide +kernel
theorem dX7_init_9 : decode cX7_init 9 = .ok (.aload_n 0, 1) := by decide +kernel
theorem dX7_init_10 : decode cX7_init 10 = .ok (.bipush 24, 2) := by decide +kernel
theorem dX7_init_12 : decode cX7_init 12 = .ok (.newarray .int, 2) := by decide +kernel
theorem dX7_init_14 : decode cX7_init 14 = .ok (.putfield 15, 3) := by decide +kernel
theorem dX7_init_17 : decode cX7_init 17 = .ok (.aload_n 0, 1) := by decide +kernel
theorem dX7_init_18 : decode cX7_init 18 = .ok (.bipush 24, 2) := by decide +kernel
theorem dX7_init_20 : decode cX7_init 20 = .ok (.newarray .int, 2) := by decide +kernel
theorem dX7_init_22 : decode cX7_init 22 = .ok (.putfield 19, 3) := by decide +kernel
theorem dX7_init_25 : decode cX7_init 25 = .ok (.aload_n 0, 1) := by decide +kernel
theorem dX7_init_26 : decode cX7_init 26 = .ok (.bipush 24, 2) := by decide +kernel
theorem dX7_init_28 : decode cX7_init 28 = .ok (.newarray .boolean, 2) := by decide +kernel
theorem dX7_init_30 : decode cX7_init 30 = .ok (.putfield 22, 3) := by decide +kernel
theorem dX7_init_33 : decode cX7_init 33 = .ok (.aload_n 0, 1) := by decide +kernel
theorem dX7_init_34 : decode cX7_init 34 = .ok (.sipush 160, 3) := by decide +kernel
theorem dX7_init_37 : decode cX7_init 37 = .ok (.newarray .int, 2) := by decide +kernel
theorem dX7_init_39 : decode cX7_init 39 = .ok (.putfield 26, 3) := by decide +kernel
theorem dX7_init_42 : decode cX7_init 42 = .ok (.aload_n 0, 1) := by decide +kernel
theorem dX7_init_43 : decode cX7_init 43 = .ok (.bipush 72, 2) := by decide +kernel
theorem dX7_init_45 : decode cX7_init 45 = .ok (.newarray .int, 2) := by decide +kernel
theorem dX7_init_47 : decode cX7_init 47 = .ok (.putfield 29, 3) := by decide +kernel
theorem dX7_init_50 : decode cX7_init 50 = .ok (.aload_n 0, 1) := by decide +kernel
theorem dX7_init_51 : decode cX7_init 51 = .ok (.bipush 40, 2) := by decide +kernel
theorem dX7_init_53 : decode cX7_init 53 = .ok (.newarray .int, 2) := by decide +kernel
theorem dX7_init_55 : decode cX7_init 55 = .ok (.putfield 32, 3) := by decide +kernel
theorem dX7_init_58 : decode cX7_init 58 = .ok (.aload_n 0, 1) := by decide +kernel
theorem dX7_init_59 : decode cX7_init 59 = .ok (.getfield 19, 3) := by decide +kernel
theorem dX7_init_62 : decode cX7_init 62 = .ok (.iconst 0, 1) := by decide +kernel
theorem dX7_init_63 : decode cX7_init 63 = .ok (.iconst 5, 1) := by decide +kernel
theorem dX7_init_64 : decode cX7_init 64 = .ok (.iastore, 1) := by decide +kernel
theorem dX7_init_65 : decode cX7_init 65 = .ok (.return_, 1) := by decide +kernel
theorem dX7_become_0 : decode cX7_become 0 = .ok (.aload_n 0, 1) := by decide +kernel
theorem dX7_become_1 : decode cX7_become 1 = .ok (.aload_n 1, 1) := by decide +kernel
theorem dX7_become_2 : decode cX7_become 2 = .ok (.getfield 35, 3) := by decide +kernel
theorem dX7_become_5 : decode cX7_become 5 = .ok (.putfield 35, 3) := by decide +kernel
theorem dX7_become_8 : decode cX7_become 8 = .ok (.aload_n 0, 1) := by decide +kernel
theorem dX7_become_9 : decode cX7_become 9 = .ok (.aload_n 1, 1) := by decide +kernel
theorem dX7_become_10 : decode cX7_become 10 = .ok (.getfield 9, 3) := by decide +kernel
theorem dX7_become_13 : decode cX7_become 13 = .ok (.putfield 9, 3) := by decide +kernel
theorem dX7_become_16 : decode cX7_become 16 = .ok (.aload_n 0, 1) := by decide +kernel
theorem dX7_become_17 : decode cX7_become 17 = .ok (.aload_n 1, 1) := by decide +kernel
theorem dX7_become_18 : decode cX7_become 18 = .ok (.getfield 38, 3) := by decide +kernel
theorem dX7_become_21 : decode cX7_become 21 = .ok (.putfield 38, 3) := by decide +kernel
theorem dX7_become_24 : decode cX7_become 24 = .ok (.aload_n 0, 1) := by decide +kernel
theorem dX7_become_25 : decode cX7_become 25 = .ok (.aload_n 1, 1) := by decide +kernel
theorem dX7_become_26 : decode cX7_become 26 = .ok (.getfield 41, 3) := by decide +kernel
theorem dX7_become_29 : decode cX7_become 29 = .ok (.putfield 41, 3) := by decide +kernel
theorem dX7_become_32 : decode cX7_become 32 = .ok (.aload_n 0, 1) := by decide +kernel
theorem dX7_become_33 : decode cX7_become 33 = .ok (.aload_n 1, 1) := by decide +kernel
theorem dX7_become_34 : decode cX7_become 34 = .ok (.getfield 44, 3) := by decide +kernel
theorem dX7_become_37 : decode cX7_become 37 = .ok (.putfield 44, 3) := by decide +kernel
theorem dX7_become_40 : decode cX7_become 40 = .ok (.aload_n 0, 1) := by decide +kernel
theorem dX7_become_41 : decode cX7_become 41 = .ok (.aload_n 1, 1) := by decide +kernel
theorem dX7_become_42 : decode cX7_become 42 = .ok (.getfield 47, 3) := by decide +kernel
theorem dX7_become_45 : decode cX7_become 45 = .ok (.putfield 47, 3) := by decide +kernel
theorem dX7_become_48 : decode cX7_become 48 = .ok (.aload_n 1, 1) := by decide +kernel
theorem dX7_become_49 : decode cX7_become 49 = .ok (.getfield 15, 3) := by decide +kernel
theorem dX7_become_52 : decode cX7_become 52 = .ok (.iconst 0, 1) := by decide +kernel
theorem dX7_become_53 : decode cX7_become 53 = .ok (.aload_n 0, 1) := by decide +kernel
theorem dX7_become_54 : decode cX7_become 54 = .ok (.getfield 15, 3) := by decide +kernel
theorem dX7_become_57 : decode cX7_become 57 = .ok (.iconst 0, 1) := by decide +kernel
theorem dX7_become_58 : decode cX7_become 58 = .ok (.bipush 24, 2) := by decide +kernel
theorem dX7_become_60 : decode cX7_become 60 = .ok (.invokestatic 50, 3) := by decide +kernel
theorem dX7_become_63 : decode cX7_become 63 = .ok (.aload_n 1, 1) := by decide +kernel
theorem dX7_become_64 : decode cX7_become 64 = .ok (.getfield 19, 3) := by decide +kernel
theorem dX7_become_67 : decode cX7_become 67 = .ok (.iconst 0, 1) := by decide +kernel
theorem dX7_become_68 : decode cX7_become 68 = .ok (.aload_n 0, 1) := by decide +kernel
theorem dX7_become_69 : decode cX7_become 69 = .ok (.getfield 19, 3) := by decide +kernel
theorem dX7_become_72 : decode cX7_become 72 = .ok (.iconst 0, 1) := by decide +kernel
theorem dX7_become_73 : decode cX7_become 73 = .ok (.bipush 24, 2) := by decide +kernel
theorem dX7_become_75 : decode cX7_become 75 = .ok (.invokestatic 50, 3) := by decide +kernel
theorem dX7_become_78 : decode cX7_become 78 = .ok (.aload_n 1, 1) := by decide +kernel
theorem dX7_become_79 : decode cX7_become 79 = .ok (.getfield 22, 3) := by decide +kernel
theorem dX7_become_82 : decode cX7_become 82 = .ok (.iconst 0, 1) := by decide +kernel
theorem dX7_become_83 : decode cX7_become 83 = .ok (.aload_n 0, 1) := by decide +kernel
theorem dX7_become_84 : decode cX7_become 84 = .ok (.getfield 22, 3) := by decide +kernel
theorem dX7_become_87 : decode cX7_become 87 = .ok (.iconst 0, 1) := by decide +kernel
theorem dX7_become_88 : decode cX7_become 88 = .ok (.bipush 24, 2) := by decide +kernel
theorem dX7_become_90 : decode cX7_become 90 = .ok (.invokestatic 50, 3) := by decide +kernel
theorem dX7_become_93 : decode cX7_become 93 = .ok (.aload_n 1, 1) := by decide +kernel
theorem dX7_become_94 : decode cX7_become 94 = .ok (.getfield 26, 3) := by decide +kernel
theorem dX7_become_97 : decode cX7_become 97 = .ok (.iconst 0, 1) := by decide +kernel
theorem dX7_become_98 : decode cX7_become 98 = .ok (.aload_n 0, 1) := by decide +kernel
theorem dX7_become_99 : decode cX7_become 99 = .ok (.getfield 26, 3) := by decide +kernel
theorem dX7_become_102 : decode cX7_become 102 = .ok (.iconst 0, 1) := by decide +kernel
theorem dX7_become_103 : decode cX7_become 103 = .ok (.aload_n 0, 1) := by decide +kernel
theorem dX7_become_104 : decode cX7_become 104 = .ok (.getfield 26, 3) := by decide +kernel
theorem dX7_become_107 : decode cX7_become 107 = .ok (.arraylength, 1) := by decide +kernel
theorem dX7_become_108 : decode cX7_become 108 = .ok (.invokestatic 50, 3) := by decide +kernel
theorem dX7_become_111 : decode cX7_become 111 = .ok (.aload_n 1, 1) := by decide +kernel
theorem dX7_become_112 : decode cX7_become 112 = .ok (.getfield 29, 3) := by decide +kernel
theorem dX7_become_115 : decode cX7_become 115 = .ok (.iconst 0, 1) := by decide +kernel
theorem dX7_become_116 : decode cX7_become 116 = .ok (.aload_n 0, 1) := by decide +kernel
theorem dX7_become_117 : decode cX7_become 117 = .ok (.getfield 29, 3) := by decide +kernel
theorem dX7_become_120 : decode cX7_become 120 = .ok (.iconst 0, 1) := by decide +kernel
theorem dX7_become_121 : decode cX7_become 121 = .ok (.aload_n 0, 1) := by decide +kernel
theorem dX7_become_122 : decode cX7_become 122 = .ok (.getfield 29, 3) := by decide +kernel
theorem dX7_become_125 : decode cX7_become 125 = .ok (.arraylength, 1) := by decide +kernel
theorem dX7_become_126 : decode cX7_become 126 = .ok (.invokestatic 50, 3) := by decide +kernel
theorem dX7_become_129 : decode cX7_become 129 = .ok (.aload_n 1, 1) := by decide +kernel
theorem dX7_become_130 : decode cX7_become 130 = .ok (.getfield 32, 3) := by decide +kernel
theorem dX7_become_133 : decode cX7_become 133 = .ok (.iconst 0, 1) := by decide +kernel
theorem dX7_become_134 : decode cX7_become 134 = .ok (.aload_n 0, 1) := by decide +kernel
theorem dX7_become_135 : decode cX7_become 135 = .ok (.getfield 32, 3) := by decide +kernel
theorem dX7_become_138 : decode cX7_become 138 = .ok (.iconst 0, 1) := by decide +kernel
theorem dX7_become_139 : decode cX7_become 139 = .ok (.aload_n 0, 1) := by decide +kernel
theorem dX7_become_140 : decode cX7_become 140 = .ok (.getfield 32, 3) := by decide +kernel
theorem dX7_become_143 : decode cX7_become 143 = .ok (.arraylength, 1) := by decide +kernel
theorem dX7_become_144 : decode cX7_become 144 = .ok (.invokestatic 50, 3) := by decide +kernel
theorem dX7_become_147 : decode cX7_become 147 = .ok (.return_, 1) := by decide +kernel
theorem dX7_of_0 : decode cX7_of 0 = .ok (.aload_n 0, 1) := by decide +kernel
theorem dX7_of_1 : decode cX7_of 1 = .ok (.getfield 26, 3) := by decide +kernel
theorem dX7_of_4 : decode cX7_of 4 = .ok (.bipush 10, 2) := by decide +kernel
theorem dX7_of_6 : decode cX7_of 6 = .ok (.iload_n 1, 1) := by decide +kernel
theorem dX7_of_7 : decode cX7_of 7 = .ok (.imul, 1) := by decide +kernel
theorem dX7_of_8 : decode cX7_of 8 = .ok (.iload_n 2, 1) := by decide +kernel
theorem dX7_of_9 : decode cX7_of 9 = .ok (.iadd, 1) := by decide +kernel
theorem dX7_of_10 : decode cX7_of 10 = .ok (.iaload, 1) := by decide +kernel
theorem dX7_of_11 : decode cX7_of 11 = .ok (.ireturn, 1) := by decide +kernel
theorem dX7_set_0 : decode cX7_set 0 = .ok (.aload_n 0, 1) := by decide +kernel
theorem dX7_set_1 : decode cX7_set 1 = .ok (.getfield 26, 3) := by decide +kernel
theorem dX7_set_4 : decode cX7_set 4 = .ok (.bipush 10, 2) := by decide +kernel
theorem dX7_set_6 : decode cX7_set 6 = .ok (.iload_n 1, 1) := by decide +kernel
theorem dX7_set_7 : decode cX7_set 7 = .ok (.imul, 1) := by decide +kernel
theorem dX7_set_8 : decode cX7_set 8 = .ok (.iload_n 2, 1) := by decide +kernel
theorem dX7_set_9 : decode cX7_set 9 = .ok (.iadd, 1) := by decide +kernel
theorem dX7_set_10 : decode cX7_set 10 = .ok (.iload_n 3, 1) := by decide +kernel
theorem dX7_set_11 : decode cX7_set 11 = .ok (.iastore, 1) := by decide +kernel
theorem dX7_set_12 : decode cX7_set 12 = .ok (.return_, 1) := by decide +kernel
theorem dX7_entry_0 : decode cX7_entry 0 = .ok (.aload_n 0, 1) := by decide +kernel
theorem dX7_entry_1 : decode cX7_entry 1 = .ok (.getfield 35, 3) := by decide +kernel
theorem dX7_entry_4 : decode cX7_entry 4 = .ok (.aload_n 0, 1) := by decide +kernel
theorem dX7_entry_5 : decode cX7_entry 5 = .ok (.getfield 9, 3) := by decide +kernel
theorem dX7_entry_8 : decode cX7_entry 8 = .ok (.irem, 1) := by decide +kernel
theorem dX7_entry_9 : decode cX7_entry 9 = .ok (.ireturn, 1) := by decide +kernel
theorem dX7_lee_0 : decode cX7_lee 0 = .ok (.aload_n 0, 1) := by decide +kernel
theorem dX7_lee_1 : decode cX7_lee 1 = .ok (.getfield 15, 3) := by decide +kernel
theorem dX7_lee_4 : decode cX7_lee 4 = .ok (.aload_n 0, 1) := by decide +kernel
theorem dX7_lee_5 : decode cX7_lee 5 = .ok (.invokevirtual 56, 3) := by decide +kernel
theorem dX7_lee_8 : decode cX7_lee 8 = .ok (.iaload, 1) := by decide +kernel
theorem dX7_lee_9 : decode cX7_lee 9 = .ok (.bipush 8, 2) := by decide +kernel
theorem dX7_lee_11 : decode cX7_lee 11 = .ok (.iadd, 1) := by decide +kernel
theorem dX7_lee_12 : decode cX7_lee 12 = .ok (.bipush 16, 2) := by decide +kernel
theorem dX7_lee_14 : decode cX7_lee 14 = .ok (.irem, 1) := by decide +kernel
theorem dX7_lee_15 : decode cX7_lee 15 = .ok (.iconst 1, 1) := by decide +kernel
theorem dX7_lee_16 : decode cX7_lee 16 = .ok (.iadd, 1) := by decide +kernel
theorem dX7_lee_17 : decode cX7_lee 17 = .ok (.iconst 2, 1) := by decide +kernel
theorem dX7_lee_18 : decode cX7_lee 18 = .ok (.idiv, 1) := by decide +kernel
theorem dX7_lee_19 : decode cX7_lee 19 = .ok (.bipush 8, 2) := by decide +kernel
theorem dX7_lee_21 : decode cX7_lee 21 = .ok (.irem, 1) := by decide +kernel
theorem dX7_lee_22 : decode cX7_lee 22 = .ok (.istore_n 2, 1) := by decide +kernel
theorem dX7_lee_23 : decode cX7_lee 23 = .ok (.iload_n 2, 1) := by decide +kernel
theorem dX7_lee_24 : decode cX7_lee 24 = .ok (.ifCond .eq 8, 3) := by decide +kernel
theorem dX7_lee_27 : decode cX7_lee 27 = .ok (.iload_n 2, 1) := by decide +kernel
theorem dX7_lee_28 : decode cX7_lee 28 = .ok (.iconst 4, 1) := by decide +kernel
theorem dX7_lee_29 : decode cX7_lee 29 = .ok (.if_icmp .ne 7, 3) := by decide +kernel
theorem dX7_lee_32 : decode cX7_lee 32 = .ok (.iconst 0, 1) := by decide +kernel
theorem dX7_lee_33 : decode cX7_lee 33 = .ok (.goto 13, 3) := by decide +kernel
theorem dX7_lee_36 : decode cX7_lee 36 = .ok (.iload_n 2, 1) := by decide +kernel
theorem dX7_lee_37 : decode cX7_lee 37 = .ok (.iconst 4, 1) := by decide +kernel
theorem dX7_lee_38 : decode cX7_lee 38 = .ok (.if_icmp .ge 7, 3) := by decide +kernel
theorem dX7_lee_41 : decode cX7_lee 41 = .ok (.iconst 1, 1) := by decide +kernel
theorem dX7_lee_42 : decode cX7_lee 42 = .ok (.goto 4, 3) := by decide +kernel
theorem dX7_lee_45 : decode cX7_lee 45 = .ok (.iconst (-1), 1) := by decide +kernel
theorem dX7_lee_46 : decode cX7_lee 46 = .ok (.istore_n 3, 1) := by decide +kernel
theorem dX7_lee_47 : decode cX7_lee 47 = .ok (.iload_n 2, 1) := by decide +kernel
theorem dX7_lee_48 : decode cX7_lee 48 = .ok (.iconst 2, 1) := by decide +kernel
theorem dX7_lee_49 : decode cX7_lee 49 = .ok (.if_icmp .eq 9, 3) := by decide +kernel
theorem dX7_lee_52 : decode cX7_lee 52 = .ok (.iload_n 2, 1) := by decide +kernel
theorem dX7_lee_53 : decode cX7_lee 53 = .ok (.bipush 6, 2) := by decide +kernel
theorem dX7_lee_55 : decode cX7_lee 55 = .ok (.if_icmp .ne 7, 3) := by decide +kernel
theorem dX7_lee_58 : decode cX7_lee 58 = .ok (.iconst 0, 1) := by decide +kernel
theorem dX7_lee_59 : decode cX7_lee 59 = .ok (.goto 19, 3) := by decide +kernel
theorem dX7_lee_62 : decode cX7_lee 62 = .ok (.iload_n 2, 1) := by decide +kernel
theorem dX7_lee_63 : decode cX7_lee 63 = .ok (.iconst 2, 1) := by decide +kernel
theorem dX7_lee_64 : decode cX7_lee 64 = .ok (.if_icmp .le 13, 3) := by decide +kernel
theorem dX7_lee_67 : decode cX7_lee 67 = .ok (.iload_n 2, 1) := by decide +kernel
theorem dX7_lee_68 : decode cX7_lee 68 = .ok (.bipush 6, 2) := by decide +kernel
theorem dX7_lee_70 : decode cX7_lee 70 = .ok (.if_icmp .ge 7, 3) := by decide +kernel
theorem dX7_lee_73 : decode cX7_lee 73 = .ok (.iconst 1, 1) := by decide +kernel
theorem dX7_lee_74 : decode cX7_lee 74 = .ok (.goto 4, 3) := by decide +kernel
theorem dX7_lee_77 : decode cX7_lee 77 = .ok (.iconst (-1), 1) := by decide +kernel
theorem dX7_lee_78 : decode cX7_lee 78 = .ok (.istore 4, 2) := by decide +kernel
theorem dX7_lee_80 : decode cX7_lee 80 = .ok (.iconst 0, 1) := by decide +kernel
theorem dX7_lee_81 : decode cX7_lee 81 = .ok (.istore 5, 2) := by decide +kernel
theorem dX7_lee_83 : decode cX7_lee 83 = .ok (.iconst 1, 1) := by decide +kernel
theorem dX7_lee_84 : decode cX7_lee 84 = .ok (.istore 6, 2) := by decide +kernel
theorem dX7_lee_86 : decode cX7_lee 86 = .ok (.iload 6, 2) := by decide +kernel
theorem dX7_lee_88 : decode cX7_lee 88 = .ok (.iconst 4, 1) := by decide +kernel
theorem dX7_lee_89 : decode cX7_lee 89 = .ok (.if_icmp .ge 96, 3) := by decide +kernel
theorem dX7_lee_92 : decode cX7_lee 92 = .ok (.iconst 0, 1) := by decide +kernel
theorem dX7_lee_93 : decode cX7_lee 93 = .ok (.istore 7, 2) := by decide +kernel
theorem dX7_lee_95 : decode cX7_lee 95 = .ok (.iload 7, 2) := by decide +kernel
theorem dX7_lee_97 : decode cX7_lee 97 = .ok (.aload_n 0, 1) := by decide +kernel
theorem dX7_lee_98 : decode cX7_lee 98 = .ok (.getfield 38, 3) := by decide +kernel
theorem dX7_lee_101 : decode cX7_lee 101 = .ok (.if_icmp .ge 78, 3) := by decide +kernel
theorem dX7_lee_104 : decode cX7_lee 104 = .ok (.iload 5, 2) := by decide +kernel
theorem dX7_lee_106 : decode cX7_lee 106 = .ok (.aload_n 0, 1) := by decide +kernel
theorem dX7_lee_107 : decode cX7_lee 107 = .ok (.iload 7, 2) := by decide +kernel
theorem dX7_lee_109 : decode cX7_lee 109 = .ok (.iconst 0, 1) := by decide +kernel
theorem dX7_lee_110 : decode cX7_lee 110 = .ok (.invokevirtual 60, 3) := by decide +kernel
theorem dX7_lee_113 : decode cX7_lee 113 = .ok (.aload_n 0, 1) := by decide +kernel
theorem dX7_lee_114 : decode cX7_lee 114 = .ok (.iload_n 1, 1) := by decide +kernel
theorem dX7_lee_115 : decode cX7_lee 115 = .ok (.iconst 0, 1) := by decide +kernel
theorem dX7_lee_116 : decode cX7_lee 116 = .ok (.invokevirtual 60, 3) := by decide +kernel
theorem dX7_lee_119 : decode cX7_lee 119 = .ok (.iload 6, 2) := by decide +kernel
theorem dX7_lee_121 : decode cX7_lee 121 = .ok (.iload_n 3, 1) := by decide +kernel
theorem dX7_lee_122 : decode cX7_lee 122 = .ok (.imul, 1) := by decide +kernel
theorem dX7_lee_123 : decode cX7_lee 123 = .ok (.iadd, 1) := by decide +kernel
theorem dX7_lee_124 : decode cX7_lee 124 = .ok (.if_icmp .ne 45, 3) := by decide +kernel
theorem dX7_lee_127 : decode cX7_lee 127 = .ok (.aload_n 0, 1) := by decide +kernel
theorem dX7_lee_128 : decode cX7_lee 128 = .ok (.iload 7, 2) := by decide +kernel
theorem dX7_lee_130 : decode cX7_lee 130 = .ok (.iconst 1, 1) := by decide +kernel
theorem dX7_lee_131 : decode cX7_lee 131 = .ok (.invokevirtual 60, 3) := by decide +kernel
theorem dX7_lee_134 : decode cX7_lee 134 = .ok (.aload_n 0, 1) := by decide +kernel
theorem dX7_lee_135 : decode cX7_lee 135 = .ok (.iload_n 1, 1) := by decide +kernel
theorem dX7_lee_136 : decode cX7_lee 136 = .ok (.iconst 1, 1) := by decide +kernel
theorem dX7_lee_137 : decode cX7_lee 137 = .ok (.invokevirtual 60, 3) := by decide +kernel
theorem dX7_lee_140 : decode cX7_lee 140 = .ok (.iload 6, 2) := by decide +kernel
theorem dX7_lee_142 : decode cX7_lee 142 = .ok (.iload 4, 2) := by decide +kernel
theorem dX7_lee_144 : decode cX7_lee 144 = .ok (.imul, 1) := by decide +kernel
theorem dX7_lee_145 : decode cX7_lee 145 = .ok (.iadd, 1) := by decide +kernel
theorem dX7_lee_146 : decode cX7_lee 146 = .ok (.if_icmp .ne 23, 3) := by decide +kernel
theorem dX7_lee_149 : decode cX7_lee 149 = .ok (.aload_n 0, 1) := by decide +kernel
theorem dX7_lee_150 : decode cX7_lee 150 = .ok (.iload 7, 2) := by decide +kernel
theorem dX7_lee_152 : decode cX7_lee 152 = .ok (.iconst 2, 1) := by decide +kernel
theorem dX7_lee_153 : decode cX7_lee 153 = .ok (.invokevirtual 60, 3) := by decide +kernel
theorem dX7_lee_156 : decode cX7_lee 156 = .ok (.aload_n 0, 1) := by decide +kernel
theorem dX7_lee_157 : decode cX7_lee 157 = .ok (.iload_n 1, 1) := by decide +kernel
theorem dX7_lee_158 : decode cX7_lee 158 = .ok (.iconst 2, 1) := by decide +kernel
theorem dX7_lee_159 : decode cX7_lee 159 = .ok (.invokevirtual 60, 3) := by decide +kernel
theorem dX7_lee_162 : decode cX7_lee 162 = .ok (.if_icmp .le 7, 3) := by decide +kernel
theorem dX7_lee_165 : decode cX7_lee 165 = .ok (.iconst 1, 1) := by decide +kernel
theorem dX7_lee_166 : decode cX7_lee 166 = .ok (.goto 4, 3) := by decide +kernel
theorem dX7_lee_169 : decode cX7_lee 169 = .ok (.iconst 0, 1) := by decide +kernel
theorem dX7_lee_170 : decode cX7_lee 170 = .ok (.iadd, 1) := by decide +kernel
theorem dX7_lee_171 : decode cX7_lee 171 = .ok (.istore 5, 2) := by decide +kernel
theorem dX7_lee_173 : decode cX7_lee 173 = .ok (.iinc 7 1, 3) := by decide +kernel
theorem dX7_lee_176 : decode cX7_lee 176 = .ok (.goto (-81), 3) := by decide +kernel
theorem dX7_lee_179 : decode cX7_lee 179 = .ok (.iinc 6 1, 3) := by decide +kernel
theorem dX7_lee_182 : decode cX7_lee 182 = .ok (.goto (-96), 3) := by decide +kernel
theorem dX7_lee_185 : decode cX7_lee 185 = .ok (.iload 5, 2) := by decide +kernel
theorem dX7_lee_187 : decode cX7_lee 187 = .ok (.ireturn, 1) := by decide +kernel
theorem dX7_windAt_0 : decode cX7_windAt 0 = .ok (.iconst 0, 1) := by decide +kernel
theorem dX7_windAt_1 : decode cX7_windAt 1 = .ok (.aload_n 0, 1) := by decide +kernel
theorem dX7_windAt_2 : decode cX7_windAt 2 = .ok (.getfield 19, 3) := by decide +kernel
theorem dX7_windAt_5 : decode cX7_windAt 5 = .ok (.aload_n 0, 1) := by decide +kernel
theorem dX7_windAt_6 : decode cX7_windAt 6 = .ok (.invokevirtual 56, 3) := by decide +kernel
theorem dX7_windAt_9 : decode cX7_windAt 9 = .ok (.iaload, 1) := by decide +kernel
theorem dX7_windAt_10 : decode cX7_windAt 10 = .ok (.iconst 2, 1) := by decide +kernel
theorem dX7_windAt_11 : decode cX7_windAt 11 = .ok (.aload_n 0, 1) := by decide +kernel
theorem dX7_windAt_12 : decode cX7_windAt 12 = .ok (.iload_n 1, 1) := by decide +kernel
theorem dX7_windAt_13 : decode cX7_windAt 13 = .ok (.invokevirtual 64, 3) := by decide +kernel
theorem dX7_windAt_16 : decode cX7_windAt 16 = .ok (.imul, 1) := by decide +kernel
theorem dX7_windAt_17 : decode cX7_windAt 17 = .ok (.isub, 1) := by decide +kernel
theorem dX7_windAt_18 : decode cX7_windAt 18 = .ok (.invokestatic 68, 3) := by decide +kernel
theorem dX7_windAt_21 : decode cX7_windAt 21 = .ok (.ireturn, 1) := by decide +kernel
theorem dX7_oil_0 : decode cX7_oil 0 = .ok (.aload_n 0, 1) := by decide +kernel
theorem dX7_oil_1 : decode cX7_oil 1 = .ok (.iload_n 1, 1) := by decide +kernel
theorem dX7_oil_2 : decode cX7_oil 2 = .ok (.iconst 5, 1) := by decide +kernel
theorem dX7_oil_3 : decode cX7_oil 3 = .ok (.iconst 0, 1) := by decide +kernel
theorem dX7_oil_4 : decode cX7_oil 4 = .ok (.invokevirtual 73, 3) := by decide +kernel
theorem dX7_oil_7 : decode cX7_oil 7 = .ok (.aload_n 0, 1) := by decide +kernel
theorem dX7_oil_8 : decode cX7_oil 8 = .ok (.iload_n 1, 1) := by decide +kernel
theorem dX7_oil_9 : decode cX7_oil 9 = .ok (.bipush 9, 2) := by decide +kernel
theorem dX7_oil_11 : decode cX7_oil 11 = .ok (.iconst 0, 1) := by decide +kernel
theorem dX7_oil_12 : decode cX7_oil 12 = .ok (.invokevirtual 73, 3) := by decide +kernel
theorem dX7_oil_15 : decode cX7_oil 15 = .ok (.return_, 1) := by decide +kernel
theorem dX7_turn_0 : decode cX7_turn 0 = .ok (.iconst 0, 1) := by decide +kernel
theorem dX7_turn_1 : decode cX7_turn 1 = .ok (.istore_n 1, 1) := by decide +kernel
theorem dX7_turn_2 : decode cX7_turn 2 = .ok (.iload_n 1, 1) := by decide +kernel
theorem dX7_turn_3 : decode cX7_turn 3 = .ok (.aload_n 0, 1) := by decide +kernel
theorem dX7_turn_4 : decode cX7_turn 4 = .ok (.getfield 38, 3) := by decide +kernel
theorem dX7_turn_7 : decode cX7_turn 7 = .ok (.if_icmp .ge 179, 3) := by decide +kernel
theorem dX7_turn_10 : decode cX7_turn 10 = .ok (.aload_n 0, 1) := by decide +kernel
theorem dX7_turn_11 : decode cX7_turn 11 = .ok (.iload_n 1, 1) := by decide +kernel
theorem dX7_turn_12 : decode cX7_turn 12 = .ok (.invokevirtual 77, 3) := by decide +kernel
theorem dX7_turn_15 : decode cX7_turn 15 = .ok (.istore_n 2, 1) := by decide +kernel
theorem dX7_turn_16 : decode cX7_turn 16 = .ok (.aload_n 0, 1) := by decide +kernel
theorem dX7_turn_17 : decode cX7_turn 17 = .ok (.iload_n 1, 1) := by decide +kernel
theorem dX7_turn_18 : decode cX7_turn 18 = .ok (.bipush 8, 2) := by decide +kernel
theorem dX7_turn_20 : decode cX7_turn 20 = .ok (.invokevirtual 60, 3) := by decide +kernel
theorem dX7_turn_23 : decode cX7_turn 23 = .ok (.ifCond .gt 13, 3) := by decide +kernel
theorem dX7_turn_26 : decode cX7_turn 26 = .ok (.iload_n 2, 1) := by decide +kernel
theorem dX7_turn_27 : decode cX7_turn 27 = .ok (.aload_n 0, 1) := by decide +kernel
theorem dX7_turn_28 : decode cX7_turn 28 = .ok (.iload_n 1, 1) := by decide +kernel
theorem dX7_turn_29 : decode cX7_turn 29 = .ok (.iconst 5, 1) := by decide +kernel
theorem dX7_turn_30 : decode cX7_turn 30 = .ok (.invokevirtual 60, 3) := by decide +kernel
theorem dX7_turn_33 : decode cX7_turn 33 = .ok (.if_icmp .gt 34, 3) := by decide +kernel
theorem dX7_turn_36 : decode cX7_turn 36 = .ok (.aload_n 0, 1) := by decide +kernel
theorem dX7_turn_37 : decode cX7_turn 37 = .ok (.iload_n 1, 1) := by decide +kernel
theorem dX7_turn_38 : decode cX7_turn 38 = .ok (.bipush 8, 2) := by decide +kernel
theorem dX7_turn_40 : decode cX7_turn 40 = .ok (.iconst 0, 1) := by decide +kernel
theorem dX7_turn_41 : decode cX7_turn 41 = .ok (.aload_n 0, 1) := by decide +kernel
theorem dX7_turn_42 : decode cX7_turn 42 = .ok (.iload_n 1, 1) := by decide +kernel
theorem dX7_turn_43 : decode cX7_turn 43 = .ok (.bipush 8, 2) := by decide +kernel
theorem dX7_turn_45 : decode cX7_turn 45 = .ok (.invokevirtual 60, 3) := by decide +kernel
theorem dX7_turn_48 : decode cX7_turn 48 = .ok (.iconst 1, 1) := by decide +kernel
theorem dX7_turn_49 : decode cX7_turn 49 = .ok (.isub, 1) := by decide +kernel
theorem dX7_turn_50 : decode cX7_turn 50 = .ok (.invokestatic 68, 3) := by decide +kernel
theorem dX7_turn_53 : decode cX7_turn 53 = .ok (.invokevirtual 73, 3) := by decide +kernel
theorem dX7_turn_56 : decode cX7_turn 56 = .ok (.aload_n 0, 1) := by decide +kernel
theorem dX7_turn_57 : decode cX7_turn 57 = .ok (.iload_n 1, 1) := by decide +kernel
theorem dX7_turn_58 : decode cX7_turn 58 = .ok (.bipush 7, 2) := by decide +kernel
theorem dX7_turn_60 : decode cX7_turn 60 = .ok (.iconst 0, 1) := by decide +kernel
theorem dX7_turn_61 : decode cX7_turn 61 = .ok (.invokevirtual 73, 3) := by decide +kernel
theorem dX7_turn_64 : decode cX7_turn 64 = .ok (.goto 116, 3) := by decide +kernel
theorem dX7_turn_67 : decode cX7_turn 67 = .ok (.aload_n 0, 1) := by decide +kernel
theorem dX7_turn_68 : decode cX7_turn 68 = .ok (.iload_n 1, 1) := by decide +kernel
theorem dX7_turn_69 : decode cX7_turn 69 = .ok (.bipush 6, 2) := by decide +kernel
theorem dX7_turn_71 : decode cX7_turn 71 = .ok (.invokevirtual 60, 3) := by decide +kernel
theorem dX7_turn_74 : decode cX7_turn 74 = .ok (.aload_n 0, 1) := by decide +kernel
theorem dX7_turn_75 : decode cX7_turn 75 = .ok (.getfield 15, 3) := by decide +kernel
theorem dX7_turn_78 : decode cX7_turn 78 = .ok (.aload_n 0, 1) := by decide +kernel
theorem dX7_turn_79 : decode cX7_turn 79 = .ok (.invokevirtual 56, 3) := by decide +kernel
theorem dX7_turn_82 : decode cX7_turn 82 = .ok (.iaload, 1) := by decide +kernel
theorem dX7_turn_83 : decode cX7_turn 83 = .ok (.invokestatic 80, 3) := by decide +kernel
theorem dX7_turn_86 : decode cX7_turn 86 = .ok (.istore_n 3, 1) := by decide +kernel
theorem dX7_turn_87 : decode cX7_turn 87 = .ok (.aload_n 0, 1) := by decide +kernel
theorem dX7_turn_88 : decode cX7_turn 88 = .ok (.iload_n 1, 1) := by decide +kernel
theorem dX7_turn_89 : decode cX7_turn 89 = .ok (.bipush 7, 2) := by decide +kernel
theorem dX7_turn_91 : decode cX7_turn 91 = .ok (.invokevirtual 60, 3) := by decide +kernel
theorem dX7_turn_94 : decode cX7_turn 94 = .ok (.aload_n 0, 1) := by decide +kernel
theorem dX7_turn_95 : decode cX7_turn 95 = .ok (.iload_n 1, 1) := by decide +kernel
theorem dX7_turn_96 : decode cX7_turn 96 = .ok (.iconst 3, 1) := by decide +kernel
theorem dX7_turn_97 : decode cX7_turn 97 = .ok (.invokevirtual 60, 3) := by decide +kernel
theorem dX7_turn_100 : decode cX7_turn 100 = .ok (.imul, 1) := by decide +kernel
theorem dX7_turn_101 : decode cX7_turn 101 = .ok (.iload_n 3, 1) := by decide +kernel
theorem dX7_turn_102 : decode cX7_turn 102 = .ok (.iload_n 2, 1) := by decide +kernel
theorem dX7_turn_103 : decode cX7_turn 103 = .ok (.imul, 1) := by decide +kernel
theorem dX7_turn_104 : decode cX7_turn 104 = .ok (.iadd, 1) := by decide +kernel
theorem dX7_turn_105 : decode cX7_turn 105 = .ok (.aload_n 0, 1) := by decide +kernel
theorem dX7_turn_106 : decode cX7_turn 106 = .ok (.iload_n 1, 1) := by decide +kernel
theorem dX7_turn_107 : decode cX7_turn 107 = .ok (.iconst 3, 1) := by decide +kernel
theorem dX7_turn_108 : decode cX7_turn 108 = .ok (.invokevirtual 60, 3) := by decide +kernel
theorem dX7_turn_111 : decode cX7_turn 111 = .ok (.iconst 4, 1) := by decide +kernel
theorem dX7_turn_112 : decode cX7_turn 112 = .ok (.iadd, 1) := by decide +kernel
theorem dX7_turn_113 : decode cX7_turn 113 = .ok (.aload_n 0, 1) := by decide +kernel
theorem dX7_turn_114 : decode cX7_turn 114 = .ok (.iload_n 1, 1) := by decide +kernel
theorem dX7_turn_115 : decode cX7_turn 115 = .ok (.iconst 5, 1) := by decide +kernel
theorem dX7_turn_116 : decode cX7_turn 116 = .ok (.invokevirtual 60, 3) := by decide +kernel
theorem dX7_turn_119 : decode cX7_turn 119 = .ok (.iadd, 1) := by decide +kernel
theorem dX7_turn_120 : decode cX7_turn 120 = .ok (.idiv, 1) := by decide +kernel
theorem dX7_turn_121 : decode cX7_turn 121 = .ok (.istore 4, 2) := by decide +kernel
theorem dX7_turn_123 : decode cX7_turn 123 = .ok (.bipush (-8), 2) := by decide +kernel
theorem dX7_turn_125 : decode cX7_turn 125 = .ok (.bipush 8, 2) := by decide +kernel
theorem dX7_turn_127 : decode cX7_turn 127 = .ok (.iload 4, 2) := by decide +kernel
theorem dX7_turn_129 : decode cX7_turn 129 = .ok (.invokestatic 83, 3) := by decide +kernel
theorem dX7_turn_132 : decode cX7_turn 132 = .ok (.invokestatic 68, 3) := by decide +kernel
theorem dX7_turn_135 : decode cX7_turn 135 = .ok (.istore 4, 2) := by decide +kernel
theorem dX7_turn_137 : decode cX7_turn 137 = .ok (.iload 4, 2) := by decide +kernel
theorem dX7_turn_139 : decode cX7_turn 139 = .ok (.ifCond .ne 9, 3) := by decide +kernel
theorem dX7_turn_142 : decode cX7_turn 142 = .ok (.iload_n 3, 1) := by decide +kernel
theorem dX7_turn_143 : decode cX7_turn 143 = .ok (.invokestatic 86, 3) := by decide +kernel
theorem dX7_turn_146 : decode cX7_turn 146 = .ok (.istore 4, 2) := by decide +kernel
theorem dX7_turn_148 : decode cX7_turn 148 = .ok (.aload_n 0, 1) := by decide +kernel
theorem dX7_turn_149 : decode cX7_turn 149 = .ok (.iload_n 1, 1) := by decide +kernel
theorem dX7_turn_150 : decode cX7_turn 150 = .ok (.bipush 7, 2) := by decide +kernel
theorem dX7_turn_152 : decode cX7_turn 152 = .ok (.iload 4, 2) := by decide +kernel
theorem dX7_turn_154 : decode cX7_turn 154 = .ok (.invokevirtual 73, 3) := by decide +kernel
theorem dX7_turn_157 : decode cX7_turn 157 = .ok (.aload_n 0, 1) := by decide +kernel
theorem dX7_turn_158 : decode cX7_turn 158 = .ok (.iload_n 1, 1) := by decide +kernel
theorem dX7_turn_159 : decode cX7_turn 159 = .ok (.bipush 6, 2) := by decide +kernel
theorem dX7_turn_161 : decode cX7_turn 161 = .ok (.aload_n 0, 1) := by decide +kernel
theorem dX7_turn_162 : decode cX7_turn 162 = .ok (.iload_n 1, 1) := by decide +kernel
theorem dX7_turn_163 : decode cX7_turn 163 = .ok (.bipush 6, 2) := by decide +kernel
theorem dX7_turn_165 : decode cX7_turn 165 = .ok (.invokevirtual 60, 3) := by decide +kernel
theorem dX7_turn_168 : decode cX7_turn 168 = .ok (.iload 4, 2) := by decide +kernel
theorem dX7_turn_170 : decode cX7_turn 170 = .ok (.iadd, 1) := by decide +kernel
theorem dX7_turn_171 : decode cX7_turn 171 = .ok (.bipush 16, 2) := by decide +kernel
theorem dX7_turn_173 : decode cX7_turn 173 = .ok (.iadd, 1) := by decide +kernel
theorem dX7_turn_174 : decode cX7_turn 174 = .ok (.bipush 16, 2) := by decide +kernel
theorem dX7_turn_176 : decode cX7_turn 176 = .ok (.irem, 1) := by decide +kernel
theorem dX7_turn_177 : decode cX7_turn 177 = .ok (.invokevirtual 73, 3) := by decide +kernel
theorem dX7_turn_180 : decode cX7_turn 180 = .ok (.iinc 1 1, 3) := by decide +kernel
theorem dX7_turn_183 : decode cX7_turn 183 = .ok (.goto (-181), 3) := by decide +kernel
theorem dX7_turn_186 : decode cX7_turn 186 = .ok (.return_, 1) := by decide +kernel
theorem dX7_end_0 : decode cX7_end 0 = .ok (.iconst 0, 1) := by decide +kernel
theorem dX7_end_1 : decode cX7_end 1 = .ok (.istore_n 1, 1) := by decide +kernel
theorem dX7_end_2 : decode cX7_end 2 = .ok (.iconst 0, 1) := by decide +kernel
theorem dX7_end_3 : decode cX7_end 3 = .ok (.istore_n 2, 1) := by decide +kernel
theorem dX7_end_4 : decode cX7_end 4 = .ok (.iconst 0, 1) := by decide +kernel
theorem dX7_end_5 : decode cX7_end 5 = .ok (.istore_n 3, 1) := by decide +kernel
theorem dX7_end_6 : decode cX7_end 6 = .ok (.iload_n 3, 1) := by decide +kernel
theorem dX7_end_7 : decode cX7_end 7 = .ok (.aload_n 0, 1) := by decide +kernel
theorem dX7_end_8 : decode cX7_end 8 = .ok (.getfield 44, 3) := by decide +kernel
theorem dX7_end_11 : decode cX7_end 11 = .ok (.if_icmp .ge 83, 3) := by decide +kernel
theorem dX7_end_14 : decode cX7_end 14 = .ok (.aload_n 0, 1) := by decide +kernel
theorem dX7_end_15 : decode cX7_end 15 = .ok (.getfield 32, 3) := by decide +kernel
theorem dX7_end_18 : decode cX7_end 18 = .ok (.iconst 2, 1) := by decide +kernel
theorem dX7_end_19 : decode cX7_end 19 = .ok (.iload_n 3, 1) := by decide +kernel
theorem dX7_end_20 : decode cX7_end 20 = .ok (.imul, 1) := by decide +kernel
theorem dX7_end_21 : decode cX7_end 21 = .ok (.iconst 1, 1) := by decide +kernel
theorem dX7_end_22 : decode cX7_end 22 = .ok (.iadd, 1) := by decide +kernel
theorem dX7_end_23 : decode cX7_end 23 = .ok (.iaload, 1) := by decide +kernel
theorem dX7_end_24 : decode cX7_end 24 = .ok (.aload_n 0, 1) := by decide +kernel
theorem dX7_end_25 : decode cX7_end 25 = .ok (.getfield 35, 3) := by decide +kernel
theorem dX7_end_28 : decode cX7_end 28 = .ok (.if_icmp .ne 21, 3) := by decide +kernel
theorem dX7_end_31 : decode cX7_end 31 = .ok (.iload_n 1, 1) := by decide +kernel
theorem dX7_end_32 : decode cX7_end 32 = .ok (.aload_n 0, 1) := by decide +kernel
theorem dX7_end_33 : decode cX7_end 33 = .ok (.aload_n 0, 1) := by decide +kernel
theorem dX7_end_34 : decode cX7_end 34 = .ok (.getfield 32, 3) := by decide +kernel
theorem dX7_end_37 : decode cX7_end 37 = .ok (.iconst 2, 1) := by decide +kernel
theorem dX7_end_38 : decode cX7_end 38 = .ok (.iload_n 3, 1) := by decide +kernel
theorem dX7_end_39 : decode cX7_end 39 = .ok (.imul, 1) := by decide +kernel
theorem dX7_end_40 : decode cX7_end 40 = .ok (.iaload, 1) := by decide +kernel
theorem dX7_end_41 : decode cX7_end 41 = .ok (.invokevirtual 91, 3) := by decide +kernel
theorem dX7_end_44 : decode cX7_end 44 = .ok (.iadd, 1) := by decide +kernel
theorem dX7_end_45 : decode cX7_end 45 = .ok (.istore_n 1, 1) := by decide +kernel
theorem dX7_end_46 : decode cX7_end 46 = .ok (.goto 42, 3) := by decide +kernel
theorem dX7_end_49 : decode cX7_end 49 = .ok (.aload_n 0, 1) := by decide +kernel
theorem dX7_end_50 : decode cX7_end 50 = .ok (.getfield 32, 3) := by decide +kernel
theorem dX7_end_53 : decode cX7_end 53 = .ok (.iconst 2, 1) := by decide +kernel
theorem dX7_end_54 : decode cX7_end 54 = .ok (.iload_n 2, 1) := by decide +kernel
theorem dX7_end_55 : decode cX7_end 55 = .ok (.imul, 1) := by decide +kernel
theorem dX7_end_56 : decode cX7_end 56 = .ok (.aload_n 0, 1) := by decide +kernel
theorem dX7_end_57 : decode cX7_end 57 = .ok (.getfield 32, 3) := by decide +kernel
theorem dX7_end_60 : decode cX7_end 60 = .ok (.iconst 2, 1) := by decide +kernel
theorem dX7_end_61 : decode cX7_end 61 = .ok (.iload_n 3, 1) := by decide +kernel
theorem dX7_end_62 : decode cX7_end 62 = .ok (.imul, 1) := by decide +kernel
theorem dX7_end_63 : decode cX7_end 63 = .ok (.iaload, 1) := by decide +kernel
theorem dX7_end_64 : decode cX7_end 64 = .ok (.iastore, 1) := by decide +kernel
theorem dX7_end_65 : decode cX7_end 65 = .ok (.aload_n 0, 1) := by decide +kernel
theorem dX7_end_66 : decode cX7_end 66 = .ok (.getfield 32, 3) := by decide +kernel
theorem dX7_end_69 : decode cX7_end 69 = .ok (.iconst 2, 1) := by decide +kernel
theorem dX7_end_70 : decode cX7_end 70 = .ok (.iload_n 2, 1) := by decide +kernel
theorem dX7_end_71 : decode cX7_end 71 = .ok (.imul, 1) := by decide +kernel
theorem dX7_end_72 : decode cX7_end 72 = .ok (.iconst 1, 1) := by decide +kernel
theorem dX7_end_73 : decode cX7_end 73 = .ok (.iadd, 1) := by decide +kernel
theorem dX7_end_74 : decode cX7_end 74 = .ok (.aload_n 0, 1) := by decide +kernel
theorem dX7_end_75 : decode cX7_end 75 = .ok (.getfield 32, 3) := by decide +kernel
theorem dX7_end_78 : decode cX7_end 78 = .ok (.iconst 2, 1) := by decide +kernel
theorem dX7_end_79 : decode cX7_end 79 = .ok (.iload_n 3, 1) := by decide +kernel
theorem dX7_end_80 : decode cX7_end 80 = .ok (.imul, 1) := by decide +kernel
theorem dX7_end_81 : decode cX7_end 81 = .ok (.iconst 1, 1) := by decide +kernel
theorem dX7_end_82 : decode cX7_end 82 = .ok (.iadd, 1) := by decide +kernel
theorem dX7_end_83 : decode cX7_end 83 = .ok (.iaload, 1) := by decide +kernel
theorem dX7_end_84 : decode cX7_end 84 = .ok (.iastore, 1) := by decide +kernel
theorem dX7_end_85 : decode cX7_end 85 = .ok (.iinc 2 1, 3) := by decide +kernel
theorem dX7_end_88 : decode cX7_end 88 = .ok (.iinc 3 1, 3) := by decide +kernel
theorem dX7_end_91 : decode cX7_end 91 = .ok (.goto (-85), 3) := by decide +kernel
theorem dX7_end_94 : decode cX7_end 94 = .ok (.aload_n 0, 1) := by decide +kernel
theorem dX7_end_95 : decode cX7_end 95 = .ok (.iload_n 2, 1) := by decide +kernel
theorem dX7_end_96 : decode cX7_end 96 = .ok (.putfield 44, 3) := by decide +kernel
theorem dX7_end_99 : decode cX7_end 99 = .ok (.iconst 0, 1) := by decide +kernel
theorem dX7_end_100 : decode cX7_end 100 = .ok (.istore_n 3, 1) := by decide +kernel
theorem dX7_end_101 : decode cX7_end 101 = .ok (.iload_n 3, 1) := by decide +kernel
theorem dX7_end_102 : decode cX7_end 102 = .ok (.aload_n 0, 1) := by decide +kernel
theorem dX7_end_103 : decode cX7_end 103 = .ok (.getfield 38, 3) := by decide +kernel
theorem dX7_end_106 : decode cX7_end 106 = .ok (.if_icmp .ge 69, 3) := by decide +kernel
theorem dX7_end_109 : decode cX7_end 109 = .ok (.aload_n 0, 1) := by decide +kernel
theorem dX7_end_110 : decode cX7_end 110 = .ok (.getfield 22, 3) := by decide +kernel
theorem dX7_end_113 : decode cX7_end 113 = .ok (.aload_n 0, 1) := by decide +kernel
theorem dX7_end_114 : decode cX7_end 114 = .ok (.invokevirtual 56, 3) := by decide +kernel
theorem dX7_end_117 : decode cX7_end 117 = .ok (.baload, 1) := by decide +kernel
theorem dX7_end_118 : decode cX7_end 118 = .ok (.ifCond .eq 57, 3) := by decide +kernel
theorem dX7_end_121 : decode cX7_end 121 = .ok (.aload_n 0, 1) := by decide +kernel
theorem dX7_end_122 : decode cX7_end 122 = .ok (.iload_n 3, 1) := by decide +kernel
theorem dX7_end_123 : decode cX7_end 123 = .ok (.bipush 9, 2) := by decide +kernel
theorem dX7_end_125 : decode cX7_end 125 = .ok (.aload_n 0, 1) := by decide +kernel
theorem dX7_end_126 : decode cX7_end 126 = .ok (.iload_n 3, 1) := by decide +kernel
theorem dX7_end_127 : decode cX7_end 127 = .ok (.bipush 9, 2) := by decide +kernel
theorem dX7_end_129 : decode cX7_end 129 = .ok (.invokevirtual 60, 3) := by decide +kernel
theorem dX7_end_132 : decode cX7_end 132 = .ok (.iconst 1, 1) := by decide +kernel
theorem dX7_end_133 : decode cX7_end 133 = .ok (.iadd, 1) := by decide +kernel
theorem dX7_end_134 : decode cX7_end 134 = .ok (.invokevirtual 73, 3) := by decide +kernel
theorem dX7_end_137 : decode cX7_end 137 = .ok (.aload_n 0, 1) := by decide +kernel
theorem dX7_end_138 : decode cX7_end 138 = .ok (.iload_n 3, 1) := by decide +kernel
theorem dX7_end_139 : decode cX7_end 139 = .ok (.bipush 9, 2) := by decide +kernel
theorem dX7_end_141 : decode cX7_end 141 = .ok (.invokevirtual 60, 3) := by decide +kernel
theorem dX7_end_144 : decode cX7_end 144 = .ok (.iconst 2, 1) := by decide +kernel
theorem dX7_end_145 : decode cX7_end 145 = .ok (.irem, 1) := by decide +kernel
theorem dX7_end_146 : decode cX7_end 146 = .ok (.iconst 1, 1) := by decide +kernel
theorem dX7_end_147 : decode cX7_end 147 = .ok (.if_icmp .ne 22, 3) := by decide +kernel
theorem dX7_end_150 : decode cX7_end 150 = .ok (.aload_n 0, 1) := by decide +kernel
theorem dX7_end_151 : decode cX7_end 151 = .ok (.iload_n 3, 1) := by decide +kernel
theorem dX7_end_152 : decode cX7_end 152 = .ok (.iconst 5, 1) := by decide +kernel
theorem dX7_end_153 : decode cX7_end 153 = .ok (.bipush 9, 2) := by decide +kernel
theorem dX7_end_155 : decode cX7_end 155 = .ok (.aload_n 0, 1) := by decide +kernel
theorem dX7_end_156 : decode cX7_end 156 = .ok (.iload_n 3, 1) := by decide +kernel
theorem dX7_end_157 : decode cX7_end 157 = .ok (.iconst 5, 1) := by decide +kernel
theorem dX7_end_158 : decode cX7_end 158 = .ok (.invokevirtual 60, 3) := by decide +kernel
theorem dX7_end_161 : decode cX7_end 161 = .ok (.iconst 1, 1) := by decide +kernel
theorem dX7_end_162 : decode cX7_end 162 = .ok (.iadd, 1) := by decide +kernel
theorem dX7_end_163 : decode cX7_end 163 = .ok (.invokestatic 83, 3) := by decide +kernel
theorem dX7_end_166 : decode cX7_end 166 = .ok (.invokevirtual 73, 3) := by decide +kernel
theorem dX7_end_169 : decode cX7_end 169 = .ok (.iinc 3 1, 3) := by decide +kernel
theorem dX7_end_172 : decode cX7_end 172 = .ok (.goto (-71), 3) := by decide +kernel
theorem dX7_end_175 : decode cX7_end 175 = .ok (.aload_n 0, 1) := by decide +kernel
theorem dX7_end_176 : decode cX7_end 176 = .ok (.dup, 1) := by decide +kernel
theorem dX7_end_177 : decode cX7_end 177 = .ok (.getfield 35, 3) := by decide +kernel
theorem dX7_end_180 : decode cX7_end 180 = .ok (.iconst 1, 1) := by decide +kernel
theorem dX7_end_181 : decode cX7_end 181 = .ok (.iadd, 1) := by decide +kernel
theorem dX7_end_182 : decode cX7_end 182 = .ok (.putfield 35, 3) := by decide +kernel
theorem dX7_end_185 : decode cX7_end 185 = .ok (.aload_n 0, 1) := by decide +kernel
theorem dX7_end_186 : decode cX7_end 186 = .ok (.dup, 1) := by decide +kernel
theorem dX7_end_187 : decode cX7_end 187 = .ok (.getfield 47, 3) := by decide +kernel
theorem dX7_end_190 : decode cX7_end 190 = .ok (.iload_n 1, 1) := by decide +kernel
theorem dX7_end_191 : decode cX7_end 191 = .ok (.iadd, 1) := by decide +kernel
theorem dX7_end_192 : decode cX7_end 192 = .ok (.putfield 47, 3) := by decide +kernel
theorem dX7_end_195 : decode cX7_end 195 = .ok (.iload_n 1, 1) := by decide +kernel
theorem dX7_end_196 : decode cX7_end 196 = .ok (.ireturn, 1) := by decide +kernel
theorem dX7_stand_0 : decode cX7_stand 0 = .ok (.aload_n 0, 1) := by decide +kernel
theorem dX7_stand_1 : decode cX7_stand 1 = .ok (.iload_n 2, 1) := by decide +kernel
theorem dX7_stand_2 : decode cX7_stand 2 = .ok (.bipush 6, 2) := by decide +kernel
theorem dX7_stand_4 : decode cX7_stand 4 = .ok (.invokevirtual 60, 3) := by decide +kernel
theorem dX7_stand_7 : decode cX7_stand 7 = .ok (.aload_n 0, 1) := by decide +kernel
theorem dX7_stand_8 : decode cX7_stand 8 = .ok (.getfield 29, 3) := by decide +kernel
theorem dX7_stand_11 : decode cX7_stand 11 = .ok (.bipush 6, 2) := by decide +kernel
theorem dX7_stand_13 : decode cX7_stand 13 = .ok (.iload_n 1, 1) := by decide +kernel
end
section
theorem dX7_stand_14 : decode cX7_stand 14 = .ok (.imul, 1) := by decide +kernel
theorem dX7_stand_15 : decode cX7_stand 15 = .ok (.iaload, 1) := by decide +kernel
theorem dX7_stand_16 : decode cX7_stand 16 = .ok (.invokestatic 80, 3) := by decide +kernel
theorem dX7_stand_19 : decode cX7_stand 19 = .ok (.invokestatic 94, 3) := by decide +kernel
theorem dX7_stand_22 : decode cX7_stand 22 = .ok (.istore_n 3, 1) := by decide +kernel
theorem dX7_stand_23 : decode cX7_stand 23 = .ok (.aload_n 0, 1) := by decide +kernel
theorem dX7_stand_24 : decode cX7_stand 24 = .ok (.getfield 29, 3) := by decide +kernel
theorem dX7_stand_27 : decode cX7_stand 27 = .ok (.bipush 6, 2) := by decide +kernel
theorem dX7_stand_29 : decode cX7_stand 29 = .ok (.iload_n 1, 1) := by decide +kernel
theorem dX7_stand_30 : decode cX7_stand 30 = .ok (.imul, 1) := by decide +kernel
theorem dX7_stand_31 : decode cX7_stand 31 = .ok (.iconst 1, 1) := by decide +kernel
theorem dX7_stand_32 : decode cX7_stand 32 = .ok (.iadd, 1) := by decide +kernel
theorem dX7_stand_33 : decode cX7_stand 33 = .ok (.iaload, 1) := by decide +kernel
theorem dX7_stand_34 : decode cX7_stand 34 = .ok (.istore 4, 2) := by decide +kernel
theorem dX7_stand_36 : decode cX7_stand 36 = .ok (.iload_n 3, 1) := by decide +kernel
theorem dX7_stand_37 : decode cX7_stand 37 = .ok (.iload 4, 2) := by decide +kernel
theorem dX7_stand_39 : decode cX7_stand 39 = .ok (.if_icmp .gt 7, 3) := by decide +kernel
theorem dX7_stand_42 : decode cX7_stand 42 = .ok (.iconst 1, 1) := by decide +kernel
theorem dX7_stand_43 : decode cX7_stand 43 = .ok (.goto 19, 3) := by decide +kernel
theorem dX7_stand_46 : decode cX7_stand 46 = .ok (.iload_n 3, 1) := by decide +kernel
theorem dX7_stand_47 : decode cX7_stand 47 = .ok (.bipush 8, 2) := by decide +kernel
theorem dX7_stand_49 : decode cX7_stand 49 = .ok (.iload 4, 2) := by decide +kernel
theorem dX7_stand_51 : decode cX7_stand 51 = .ok (.iconst 2, 1) := by decide +kernel
theorem dX7_stand_52 : decode cX7_stand 52 = .ok (.idiv, 1) := by decide +kernel
theorem dX7_stand_53 : decode cX7_stand 53 = .ok (.isub, 1) := by decide +kernel
theorem dX7_stand_54 : decode cX7_stand 54 = .ok (.if_icmp .lt 7, 3) := by decide +kernel
theorem dX7_stand_57 : decode cX7_stand 57 = .ok (.iconst (-1), 1) := by decide +kernel
theorem dX7_stand_58 : decode cX7_stand 58 = .ok (.goto 4, 3) := by decide +kernel
theorem dX7_stand_61 : decode cX7_stand 61 = .ok (.iconst 0, 1) := by decide +kernel
theorem dX7_stand_62 : decode cX7_stand 62 = .ok (.ireturn, 1) := by decide +kernel
theorem dX7_votes_0 : decode cX7_votes 0 = .ok (.iconst 0, 1) := by decide +kernel
theorem dX7_votes_1 : decode cX7_votes 1 = .ok (.istore_n 3, 1) := by decide +kernel
theorem dX7_votes_2 : decode cX7_votes 2 = .ok (.iconst 0, 1) := by decide +kernel
theorem dX7_votes_3 : decode cX7_votes 3 = .ok (.istore 4, 2) := by decide +kernel
theorem dX7_votes_5 : decode cX7_votes 5 = .ok (.iload 4, 2) := by decide +kernel
theorem dX7_votes_7 : decode cX7_votes 7 = .ok (.aload_n 0, 1) := by decide +kernel
theorem dX7_votes_8 : decode cX7_votes 8 = .ok (.getfield 38, 3) := by decide +kernel
theorem dX7_votes_11 : decode cX7_votes 11 = .ok (.if_icmp .ge 34, 3) := by decide +kernel
theorem dX7_votes_14 : decode cX7_votes 14 = .ok (.iload_n 3, 1) := by decide +kernel
theorem dX7_votes_15 : decode cX7_votes 15 = .ok (.aload_n 0, 1) := by decide +kernel
theorem dX7_votes_16 : decode cX7_votes 16 = .ok (.iload_n 1, 1) := by decide +kernel
theorem dX7_votes_17 : decode cX7_votes 17 = .ok (.iload 4, 2) := by decide +kernel
theorem dX7_votes_19 : decode cX7_votes 19 = .ok (.invokevirtual 97, 3) := by decide +kernel
theorem dX7_votes_22 : decode cX7_votes 22 = .ok (.iload_n 2, 1) := by decide +kernel
theorem dX7_votes_23 : decode cX7_votes 23 = .ok (.if_icmp .ne 13, 3) := by decide +kernel
theorem dX7_votes_26 : decode cX7_votes 26 = .ok (.aload_n 0, 1) := by decide +kernel
theorem dX7_votes_27 : decode cX7_votes 27 = .ok (.iload 4, 2) := by decide +kernel
theorem dX7_votes_29 : decode cX7_votes 29 = .ok (.iconst 4, 1) := by decide +kernel
theorem dX7_votes_30 : decode cX7_votes 30 = .ok (.invokevirtual 60, 3) := by decide +kernel
theorem dX7_votes_33 : decode cX7_votes 33 = .ok (.goto 4, 3) := by decide +kernel
theorem dX7_votes_36 : decode cX7_votes 36 = .ok (.iconst 0, 1) := by decide +kernel
theorem dX7_votes_37 : decode cX7_votes 37 = .ok (.iadd, 1) := by decide +kernel
theorem dX7_votes_38 : decode cX7_votes 38 = .ok (.istore_n 3, 1) := by decide +kernel
theorem dX7_votes_39 : decode cX7_votes 39 = .ok (.iinc 4 1, 3) := by decide +kernel
theorem dX7_votes_42 : decode cX7_votes 42 = .ok (.goto (-37), 3) := by decide +kernel
theorem dX7_votes_45 : decode cX7_votes 45 = .ok (.iload_n 3, 1) := by decide +kernel
theorem dX7_votes_46 : decode cX7_votes 46 = .ok (.ireturn, 1) := by decide +kernel
theorem dX7_would_0 : decode cX7_would 0 = .ok (.aload_n 0, 1) := by decide +kernel
theorem dX7_would_1 : decode cX7_would 1 = .ok (.iload_n 1, 1) := by decide +kernel
theorem dX7_would_2 : decode cX7_would 2 = .ok (.iconst 1, 1) := by decide +kernel
theorem dX7_would_3 : decode cX7_would 3 = .ok (.invokevirtual 100, 3) := by decide +kernel
theorem dX7_would_6 : decode cX7_would 6 = .ok (.aload_n 0, 1) := by decide +kernel
theorem dX7_would_7 : decode cX7_would 7 = .ok (.iload_n 1, 1) := by decide +kernel
theorem dX7_would_8 : decode cX7_would 8 = .ok (.iconst (-1), 1) := by decide +kernel
theorem dX7_would_9 : decode cX7_would 9 = .ok (.invokevirtual 100, 3) := by decide +kernel
theorem dX7_would_12 : decode cX7_would 12 = .ok (.iadd, 1) := by decide +kernel
theorem dX7_would_13 : decode cX7_would 13 = .ok (.aload_n 0, 1) := by decide +kernel
theorem dX7_would_14 : decode cX7_would 14 = .ok (.getfield 29, 3) := by decide +kernel
theorem dX7_would_17 : decode cX7_would 17 = .ok (.bipush 6, 2) := by decide +kernel
theorem dX7_would_19 : decode cX7_would 19 = .ok (.iload_n 1, 1) := by decide +kernel
theorem dX7_would_20 : decode cX7_would 20 = .ok (.imul, 1) := by decide +kernel
theorem dX7_would_21 : decode cX7_would 21 = .ok (.iconst 2, 1) := by decide +kernel
theorem dX7_would_22 : decode cX7_would 22 = .ok (.iadd, 1) := by decide +kernel
theorem dX7_would_23 : decode cX7_would 23 = .ok (.iaload, 1) := by decide +kernel
theorem dX7_would_24 : decode cX7_would 24 = .ok (.if_icmp .lt 22, 3) := by decide +kernel
theorem dX7_would_27 : decode cX7_would 27 = .ok (.aload_n 0, 1) := by decide +kernel
theorem dX7_would_28 : decode cX7_would 28 = .ok (.iload_n 1, 1) := by decide +kernel
theorem dX7_would_29 : decode cX7_would 29 = .ok (.iconst 1, 1) := by decide +kernel
theorem dX7_would_30 : decode cX7_would 30 = .ok (.invokevirtual 100, 3) := by decide +kernel
theorem dX7_would_33 : decode cX7_would 33 = .ok (.aload_n 0, 1) := by decide +kernel
theorem dX7_would_34 : decode cX7_would 34 = .ok (.iload_n 1, 1) := by decide +kernel
theorem dX7_would_35 : decode cX7_would 35 = .ok (.iconst (-1), 1) := by decide +kernel
theorem dX7_would_36 : decode cX7_would 36 = .ok (.invokevirtual 100, 3) := by decide +kernel
theorem dX7_would_39 : decode cX7_would 39 = .ok (.if_icmp .le 7, 3) := by decide +kernel
theorem dX7_would_42 : decode cX7_would 42 = .ok (.iconst 1, 1) := by decide +kernel
theorem dX7_would_43 : decode cX7_would 43 = .ok (.goto 4, 3) := by decide +kernel
theorem dX7_would_46 : decode cX7_would 46 = .ok (.iconst 0, 1) := by decide +kernel
theorem dX7_would_47 : decode cX7_would 47 = .ok (.ireturn, 1) := by decide +kernel
theorem dX7_vote_0 : decode cX7_vote 0 = .ok (.aload_n 0, 1) := by decide +kernel
theorem dX7_vote_1 : decode cX7_vote 1 = .ok (.getfield 29, 3) := by decide +kernel
theorem dX7_vote_4 : decode cX7_vote 4 = .ok (.bipush 6, 2) := by decide +kernel
theorem dX7_vote_6 : decode cX7_vote 6 = .ok (.iload_n 1, 1) := by decide +kernel
theorem dX7_vote_7 : decode cX7_vote 7 = .ok (.imul, 1) := by decide +kernel
theorem dX7_vote_8 : decode cX7_vote 8 = .ok (.iconst 4, 1) := by decide +kernel
theorem dX7_vote_9 : decode cX7_vote 9 = .ok (.iadd, 1) := by decide +kernel
theorem dX7_vote_10 : decode cX7_vote 10 = .ok (.dup2, 1) := by decide +kernel
theorem dX7_vote_11 : decode cX7_vote 11 = .ok (.iaload, 1) := by decide +kernel
theorem dX7_vote_12 : decode cX7_vote 12 = .ok (.iconst 1, 1) := by decide +kernel
theorem dX7_vote_13 : decode cX7_vote 13 = .ok (.iadd, 1) := by decide +kernel
theorem dX7_vote_14 : decode cX7_vote 14 = .ok (.iastore, 1) := by decide +kernel
theorem dX7_vote_15 : decode cX7_vote 15 = .ok (.aload_n 0, 1) := by decide +kernel
theorem dX7_vote_16 : decode cX7_vote 16 = .ok (.iload_n 1, 1) := by decide +kernel
theorem dX7_vote_17 : decode cX7_vote 17 = .ok (.invokevirtual 103, 3) := by decide +kernel
theorem dX7_vote_20 : decode cX7_vote 20 = .ok (.ifCond .ne 5, 3) := by decide +kernel
theorem dX7_vote_23 : decode cX7_vote 23 = .ok (.iconst 0, 1) := by decide +kernel
theorem dX7_vote_24 : decode cX7_vote 24 = .ok (.ireturn, 1) := by decide +kernel
theorem dX7_vote_25 : decode cX7_vote 25 = .ok (.aload_n 0, 1) := by decide +kernel
theorem dX7_vote_26 : decode cX7_vote 26 = .ok (.getfield 29, 3) := by decide +kernel
theorem dX7_vote_29 : decode cX7_vote 29 = .ok (.bipush 6, 2) := by decide +kernel
theorem dX7_vote_31 : decode cX7_vote 31 = .ok (.iload_n 1, 1) := by decide +kernel
theorem dX7_vote_32 : decode cX7_vote 32 = .ok (.imul, 1) := by decide +kernel
theorem dX7_vote_33 : decode cX7_vote 33 = .ok (.iconst 5, 1) := by decide +kernel
theorem dX7_vote_34 : decode cX7_vote 34 = .ok (.iadd, 1) := by decide +kernel
theorem dX7_vote_35 : decode cX7_vote 35 = .ok (.dup2, 1) := by decide +kernel
theorem dX7_vote_36 : decode cX7_vote 36 = .ok (.iaload, 1) := by decide +kernel
theorem dX7_vote_37 : decode cX7_vote 37 = .ok (.iconst 1, 1) := by decide +kernel
theorem dX7_vote_38 : decode cX7_vote 38 = .ok (.iadd, 1) := by decide +kernel
theorem dX7_vote_39 : decode cX7_vote 39 = .ok (.iastore, 1) := by decide +kernel
theorem dX7_vote_40 : decode cX7_vote 40 = .ok (.aload_n 0, 1) := by decide +kernel
theorem dX7_vote_41 : decode cX7_vote 41 = .ok (.getfield 29, 3) := by decide +kernel
theorem dX7_vote_44 : decode cX7_vote 44 = .ok (.bipush 6, 2) := by decide +kernel
theorem dX7_vote_46 : decode cX7_vote 46 = .ok (.iload_n 1, 1) := by decide +kernel
theorem dX7_vote_47 : decode cX7_vote 47 = .ok (.imul, 1) := by decide +kernel
theorem dX7_vote_48 : decode cX7_vote 48 = .ok (.iconst 3, 1) := by decide +kernel
theorem dX7_vote_49 : decode cX7_vote 49 = .ok (.iadd, 1) := by decide +kernel
theorem dX7_vote_50 : decode cX7_vote 50 = .ok (.iaload, 1) := by decide +kernel
theorem dX7_vote_51 : decode cX7_vote 51 = .ok (.istore_n 2, 1) := by decide +kernel
theorem dX7_vote_52 : decode cX7_vote 52 = .ok (.iconst 0, 1) := by decide +kernel
theorem dX7_vote_53 : decode cX7_vote 53 = .ok (.istore_n 3, 1) := by decide +kernel
theorem dX7_vote_54 : decode cX7_vote 54 = .ok (.iload_n 3, 1) := by decide +kernel
theorem dX7_vote_55 : decode cX7_vote 55 = .ok (.aload_n 0, 1) := by decide +kernel
theorem dX7_vote_56 : decode cX7_vote 56 = .ok (.getfield 38, 3) := by decide +kernel
theorem dX7_vote_59 : decode cX7_vote 59 = .ok (.if_icmp .ge 91, 3) := by decide +kernel
theorem dX7_vote_62 : decode cX7_vote 62 = .ok (.aload_n 0, 1) := by decide +kernel
theorem dX7_vote_63 : decode cX7_vote 63 = .ok (.iload_n 1, 1) := by decide +kernel
theorem dX7_vote_64 : decode cX7_vote 64 = .ok (.iload_n 3, 1) := by decide +kernel
theorem dX7_vote_65 : decode cX7_vote 65 = .ok (.invokevirtual 97, 3) := by decide +kernel
theorem dX7_vote_68 : decode cX7_vote 68 = .ok (.istore 4, 2) := by decide +kernel
theorem dX7_vote_70 : decode cX7_vote 70 = .ok (.iload_n 2, 1) := by decide +kernel
theorem dX7_vote_71 : decode cX7_vote 71 = .ok (.iconst 1, 1) := by decide +kernel
theorem dX7_vote_72 : decode cX7_vote 72 = .ok (.if_icmp .ne 14, 3) := by decide +kernel
theorem dX7_vote_75 : decode cX7_vote 75 = .ok (.iload 4, 2) := by decide +kernel
theorem dX7_vote_77 : decode cX7_vote 77 = .ok (.iconst 1, 1) := by decide +kernel
theorem dX7_vote_78 : decode cX7_vote 78 = .ok (.if_icmp .ne 8, 3) := by decide +kernel
theorem dX7_vote_81 : decode cX7_vote 81 = .ok (.aload_n 0, 1) := by decide +kernel
theorem dX7_vote_82 : decode cX7_vote 82 = .ok (.iload_n 3, 1) := by decide +kernel
theorem dX7_vote_83 : decode cX7_vote 83 = .ok (.invokevirtual 107, 3) := by decide +kernel
theorem dX7_vote_86 : decode cX7_vote 86 = .ok (.iload_n 2, 1) := by decide +kernel
theorem dX7_vote_87 : decode cX7_vote 87 = .ok (.iconst 2, 1) := by decide +kernel
theorem dX7_vote_88 : decode cX7_vote 88 = .ok (.if_icmp .ne 27, 3) := by decide +kernel
theorem dX7_vote_91 : decode cX7_vote 91 = .ok (.iload 4, 2) := by decide +kernel
theorem dX7_vote_93 : decode cX7_vote 93 = .ok (.iconst (-1), 1) := by decide +kernel
theorem dX7_vote_94 : decode cX7_vote 94 = .ok (.if_icmp .ne 21, 3) := by decide +kernel
theorem dX7_vote_97 : decode cX7_vote 97 = .ok (.aload_n 0, 1) := by decide +kernel
theorem dX7_vote_98 : decode cX7_vote 98 = .ok (.iload_n 3, 1) := by decide +kernel
theorem dX7_vote_99 : decode cX7_vote 99 = .ok (.bipush 8, 2) := by decide +kernel
theorem dX7_vote_101 : decode cX7_vote 101 = .ok (.iconst 4, 1) := by decide +kernel
theorem dX7_vote_102 : decode cX7_vote 102 = .ok (.aload_n 0, 1) := by decide +kernel
theorem dX7_vote_103 : decode cX7_vote 103 = .ok (.iload_n 3, 1) := by decide +kernel
theorem dX7_vote_104 : decode cX7_vote 104 = .ok (.bipush 8, 2) := by decide +kernel
theorem dX7_vote_106 : decode cX7_vote 106 = .ok (.invokevirtual 60, 3) := by decide +kernel
theorem dX7_vote_109 : decode cX7_vote 109 = .ok (.invokestatic 68, 3) := by decide +kernel
theorem dX7_vote_112 : decode cX7_vote 112 = .ok (.invokevirtual 73, 3) := by decide +kernel
theorem dX7_vote_115 : decode cX7_vote 115 = .ok (.iload_n 2, 1) := by decide +kernel
theorem dX7_vote_116 : decode cX7_vote 116 = .ok (.iconst 3, 1) := by decide +kernel
theorem dX7_vote_117 : decode cX7_vote 117 = .ok (.if_icmp .ne 27, 3) := by decide +kernel
theorem dX7_vote_120 : decode cX7_vote 120 = .ok (.aload_n 0, 1) := by decide +kernel
theorem dX7_vote_121 : decode cX7_vote 121 = .ok (.iload_n 3, 1) := by decide +kernel
theorem dX7_vote_122 : decode cX7_vote 122 = .ok (.iconst 4, 1) := by decide +kernel
theorem dX7_vote_123 : decode cX7_vote 123 = .ok (.iconst 0, 1) := by decide +kernel
theorem dX7_vote_124 : decode cX7_vote 124 = .ok (.bipush 9, 2) := by decide +kernel
theorem dX7_vote_126 : decode cX7_vote 126 = .ok (.aload_n 0, 1) := by decide +kernel
theorem dX7_vote_127 : decode cX7_vote 127 = .ok (.iload_n 3, 1) := by decide +kernel
theorem dX7_vote_128 : decode cX7_vote 128 = .ok (.iconst 4, 1) := by decide +kernel
theorem dX7_vote_129 : decode cX7_vote 129 = .ok (.invokevirtual 60, 3) := by decide +kernel
theorem dX7_vote_132 : decode cX7_vote 132 = .ok (.iload 4, 2) := by decide +kernel
theorem dX7_vote_134 : decode cX7_vote 134 = .ok (.iadd, 1) := by decide +kernel
theorem dX7_vote_135 : decode cX7_vote 135 = .ok (.invokestatic 83, 3) := by decide +kernel
theorem dX7_vote_138 : decode cX7_vote 138 = .ok (.invokestatic 68, 3) := by decide +kernel
theorem dX7_vote_141 : decode cX7_vote 141 = .ok (.invokevirtual 73, 3) := by decide +kernel
theorem dX7_vote_144 : decode cX7_vote 144 = .ok (.iinc 3 1, 3) := by decide +kernel
theorem dX7_vote_147 : decode cX7_vote 147 = .ok (.goto (-93), 3) := by decide +kernel
theorem dX7_vote_150 : decode cX7_vote 150 = .ok (.iconst 1, 1) := by decide +kernel
theorem dX7_vote_151 : decode cX7_vote 151 = .ok (.ireturn, 1) := by decide +kernel
theorem dX7_pass_0 : decode cX7_pass 0 = .ok (.aload_n 0, 1) := by decide +kernel
theorem dX7_pass_1 : decode cX7_pass 1 = .ok (.invokevirtual 111, 3) := by decide +kernel
theorem dX7_pass_4 : decode cX7_pass 4 = .ok (.aload_n 0, 1) := by decide +kernel
theorem dX7_pass_5 : decode cX7_pass 5 = .ok (.invokevirtual 114, 3) := by decide +kernel
theorem dX7_pass_8 : decode cX7_pass 8 = .ok (.ireturn, 1) := by decide +kernel
theorem dX8_init_0 : decode cX8_init 0 = .ok (.aload_n 0, 1) := by decide +kernel
theorem dX8_init_1 : decode cX8_init 1 = .ok (.invokespecial 1, 3) := by decide +kernel
theorem dX8_init_4 : decode cX8_init 4 = .ok (.aload_n 0, 1) := by decide +kernel
theorem dX8_init_5 : decode cX8_init 5 = .ok (.new 7, 3) := by decide +kernel
theorem dX8_init_8 : decode cX8_init 8 = .ok (.dup, 1) := by decide +kernel
theorem dX8_init_9 : decode cX8_init 9 = .ok (.invokespecial 9, 3) := by decide +kernel
theorem dX8_init_12 : decode cX8_init 12 = .ok (.putfield 10, 3) := by decide +kernel
theorem dX8_init_15 : decode cX8_init 15 = .ok (.aload_n 0, 1) := by decide +kernel
theorem dX8_init_16 : decode cX8_init 16 = .ok (.new 7, 3) := by decide +kernel
theorem dX8_init_19 : decode cX8_init 19 = .ok (.dup, 1) := by decide +kernel
theorem dX8_init_20 : decode cX8_init 20 = .ok (.invokespecial 9, 3) := by decide +kernel
theorem dX8_init_23 : decode cX8_init 23 = .ok (.putfield 16, 3) := by decide +kernel
theorem dX8_init_26 : decode cX8_init 26 = .ok (.return_, 1) := by decide +kernel
theorem dX8_thrown_0 : decode cX8_thrown 0 = .ok (.aload_n 0, 1) := by decide +kernel
theorem dX8_thrown_1 : decode cX8_thrown 1 = .ok (.getfield 19, 3) := by decide +kernel
theorem dX8_thrown_4 : decode cX8_thrown 4 = .ok (.ireturn, 1) := by decide +kernel
theorem dX8_no_0 : decode cX8_no 0 = .ok (.aload_n 0, 1) := by decide +kernel
theorem dX8_no_1 : decode cX8_no 1 = .ok (.iload_n 1, 1) := by decide +kernel
theorem dX8_no_2 : decode cX8_no 2 = .ok (.putfield 19, 3) := by decide +kernel
theorem dX8_no_5 : decode cX8_no 5 = .ok (.iconst 0, 1) := by decide +kernel
theorem dX8_no_6 : decode cX8_no 6 = .ok (.ireturn, 1) := by decide +kernel
theorem dX8_isIn_0 : decode cX8_isIn 0 = .ok (.iload_n 0, 1) := by decide +kernel
theorem dX8_isIn_1 : decode cX8_isIn 1 = .ok (.iload_n 1, 1) := by decide +kernel
theorem dX8_isIn_2 : decode cX8_isIn 2 = .ok (.if_icmp .lt 12, 3) := by decide +kernel
theorem dX8_isIn_5 : decode cX8_isIn 5 = .ok (.iload_n 0, 1) := by decide +kernel
theorem dX8_isIn_6 : decode cX8_isIn 6 = .ok (.iload_n 2, 1) := by decide +kernel
theorem dX8_isIn_7 : decode cX8_isIn 7 = .ok (.if_icmp .gt 7, 3) := by decide +kernel
theorem dX8_isIn_10 : decode cX8_isIn 10 = .ok (.iconst 1, 1) := by decide +kernel
theorem dX8_isIn_11 : decode cX8_isIn 11 = .ok (.goto 4, 3) := by decide +kernel
theorem dX8_isIn_14 : decode cX8_isIn 14 = .ok (.iconst 0, 1) := by decide +kernel
theorem dX8_isIn_15 : decode cX8_isIn 15 = .ok (.ireturn, 1) := by decide +kernel
theorem dX8_apart_0 : decode cX8_apart 0 = .ok (.iload_n 1, 1) := by decide +kernel
theorem dX8_apart_1 : decode cX8_apart 1 = .ok (.iload_n 0, 1) := by decide +kernel
theorem dX8_apart_2 : decode cX8_apart 2 = .ok (.isub, 1) := by decide +kernel
theorem dX8_apart_3 : decode cX8_apart 3 = .ok (.bipush 16, 2) := by decide +kernel
theorem dX8_apart_5 : decode cX8_apart 5 = .ok (.iadd, 1) := by decide +kernel
theorem dX8_apart_6 : decode cX8_apart 6 = .ok (.bipush 16, 2) := by decide +kernel
theorem dX8_apart_8 : decode cX8_apart 8 = .ok (.irem, 1) := by decide +kernel
theorem dX8_apart_9 : decode cX8_apart 9 = .ok (.istore_n 2, 1) := by decide +kernel
theorem dX8_apart_10 : decode cX8_apart 10 = .ok (.iload_n 2, 1) := by decide +kernel
theorem dX8_apart_11 : decode cX8_apart 11 = .ok (.bipush 8, 2) := by decide +kernel
theorem dX8_apart_13 : decode cX8_apart 13 = .ok (.if_icmp .le 10, 3) := by decide +kernel
theorem dX8_apart_16 : decode cX8_apart 16 = .ok (.iload_n 2, 1) := by decide +kernel
theorem dX8_apart_17 : decode cX8_apart 17 = .ok (.bipush 16, 2) := by decide +kernel
theorem dX8_apart_19 : decode cX8_apart 19 = .ok (.isub, 1) := by decide +kernel
theorem dX8_apart_20 : decode cX8_apart 20 = .ok (.goto 4, 3) := by decide +kernel
theorem dX8_apart_23 : decode cX8_apart 23 = .ok (.iload_n 2, 1) := by decide +kernel
theorem dX8_apart_24 : decode cX8_apart 24 = .ok (.ireturn, 1) := by decide +kernel
theorem dX8_layWind_0 : decode cX8_layWind 0 = .ok (.aload_n 0, 1) := by decide +kernel
theorem dX8_layWind_1 : decode cX8_layWind 1 = .ok (.getfield 10, 3) := by decide +kernel
theorem dX8_layWind_4 : decode cX8_layWind 4 = .ok (.getfield 23, 3) := by decide +kernel
theorem dX8_layWind_7 : decode cX8_layWind 7 = .ok (.iload_n 1, 1) := by decide +kernel
theorem dX8_layWind_8 : decode cX8_layWind 8 = .ok (.iload_n 2, 1) := by decide +kernel
theorem dX8_layWind_9 : decode cX8_layWind 9 = .ok (.iastore, 1) := by decide +kernel
theorem dX8_layWind_10 : decode cX8_layWind 10 = .ok (.aload_n 0, 1) := by decide +kernel
theorem dX8_layWind_11 : decode cX8_layWind 11 = .ok (.getfield 10, 3) := by decide +kernel
theorem dX8_layWind_14 : decode cX8_layWind 14 = .ok (.getfield 27, 3) := by decide +kernel
theorem dX8_layWind_17 : decode cX8_layWind 17 = .ok (.iload_n 1, 1) := by decide +kernel
theorem dX8_layWind_18 : decode cX8_layWind 18 = .ok (.iload_n 3, 1) := by decide +kernel
theorem dX8_layWind_19 : decode cX8_layWind 19 = .ok (.iastore, 1) := by decide +kernel
theorem dX8_layWind_20 : decode cX8_layWind 20 = .ok (.aload_n 0, 1) := by decide +kernel
theorem dX8_layWind_21 : decode cX8_layWind 21 = .ok (.getfield 10, 3) := by decide +kernel
theorem dX8_layWind_24 : decode cX8_layWind 24 = .ok (.getfield 30, 3) := by decide +kernel
theorem dX8_layWind_27 : decode cX8_layWind 27 = .ok (.iload_n 1, 1) := by decide +kernel
theorem dX8_layWind_28 : decode cX8_layWind 28 = .ok (.iload 4, 2) := by decide +kernel
theorem dX8_layWind_30 : decode cX8_layWind 30 = .ok (.bastore, 1) := by decide +kernel
theorem dX8_layWind_31 : decode cX8_layWind 31 = .ok (.return_, 1) := by decide +kernel
theorem dX8_beginWind_0 : decode cX8_beginWind 0 = .ok (.aload_n 0, 1) := by decide +kernel
theorem dX8_beginWind_1 : decode cX8_beginWind 1 = .ok (.iconst 0, 1) := by decide +kernel
theorem dX8_beginWind_2 : decode cX8_beginWind 2 = .ok (.putfield 19, 3) := by decide +kernel
theorem dX8_beginWind_5 : decode cX8_beginWind 5 = .ok (.iload_n 1, 1) := by decide +kernel
theorem dX8_beginWind_6 : decode cX8_beginWind 6 = .ok (.iconst 0, 1) := by decide +kernel
theorem dX8_beginWind_7 : decode cX8_beginWind 7 = .ok (.bipush 15, 2) := by decide +kernel
theorem dX8_beginWind_9 : decode cX8_beginWind 9 = .ok (.invokestatic 34, 3) := by decide +kernel
theorem dX8_beginWind_12 : decode cX8_beginWind 12 = .ok (.ifCond .eq 13, 3) := by decide +kernel
theorem dX8_beginWind_15 : decode cX8_beginWind 15 = .ok (.iload_n 2, 1) := by decide +kernel
theorem dX8_beginWind_16 : decode cX8_beginWind 16 = .ok (.iconst 0, 1) := by decide +kernel
theorem dX8_beginWind_17 : decode cX8_beginWind 17 = .ok (.bipush 9, 2) := by decide +kernel
theorem dX8_beginWind_19 : decode cX8_beginWind 19 = .ok (.invokestatic 34, 3) := by decide +kernel
theorem dX8_beginWind_22 : decode cX8_beginWind 22 = .ok (.ifCond .ne 9, 3) := by decide +kernel
theorem dX8_beginWind_25 : decode cX8_beginWind 25 = .ok (.aload_n 0, 1) := by decide +kernel
theorem dX8_beginWind_26 : decode cX8_beginWind 26 = .ok (.iconst 1, 1) := by decide +kernel
theorem dX8_beginWind_27 : decode cX8_beginWind 27 = .ok (.invokevirtual 38, 3) := by decide +kernel
theorem dX8_beginWind_30 : decode cX8_beginWind 30 = .ok (.ireturn, 1) := by decide +kernel
theorem dX8_beginWind_31 : decode cX8_beginWind 31 = .ok (.aload_n 0, 1) := by decide +kernel
theorem dX8_beginWind_32 : decode cX8_beginWind 32 = .ok (.getfield 10, 3) := by decide +kernel
theorem dX8_beginWind_35 : decode cX8_beginWind 35 = .ok (.getfield 42, 3) := by decide +kernel
theorem dX8_beginWind_38 : decode cX8_beginWind 38 = .ok (.istore 4, 2) := by decide +kernel
theorem dX8_beginWind_40 : decode cX8_beginWind 40 = .ok (.aload_n 0, 1) := by decide +kernel
theorem dX8_beginWind_41 : decode cX8_beginWind 41 = .ok (.iconst 0, 1) := by decide +kernel
theorem dX8_beginWind_42 : decode cX8_beginWind 42 = .ok (.iload_n 1, 1) := by decide +kernel
theorem dX8_beginWind_43 : decode cX8_beginWind 43 = .ok (.iload_n 2, 1) := by decide +kernel
theorem dX8_beginWind_44 : decode cX8_beginWind 44 = .ok (.iload_n 3, 1) := by decide +kernel
theorem dX8_beginWind_45 : decode cX8_beginWind 45 = .ok (.invokevirtual 45, 3) := by decide +kernel
theorem dX8_beginWind_48 : decode cX8_beginWind 48 = .ok (.aload_n 0, 1) := by decide +kernel
theorem dX8_beginWind_49 : decode cX8_beginWind 49 = .ok (.getfield 10, 3) := by decide +kernel
theorem dX8_beginWind_52 : decode cX8_beginWind 52 = .ok (.iconst 1, 1) := by decide +kernel
theorem dX8_beginWind_53 : decode cX8_beginWind 53 = .ok (.putfield 42, 3) := by decide +kernel
theorem dX8_beginWind_56 : decode cX8_beginWind 56 = .ok (.iload 4, 2) := by decide +kernel
theorem dX8_beginWind_58 : decode cX8_beginWind 58 = .ok (.ireturn, 1) := by decide +kernel
theorem dX8_addWind_0 : decode cX8_addWind 0 = .ok (.aload_n 0, 1) := by decide +kernel
theorem dX8_addWind_1 : decode cX8_addWind 1 = .ok (.iconst 0, 1) := by decide +kernel
theorem dX8_addWind_2 : decode cX8_addWind 2 = .ok (.putfield 19, 3) := by decide +kernel
theorem dX8_addWind_5 : decode cX8_addWind 5 = .ok (.iload_n 1, 1) := by decide +kernel
theorem dX8_addWind_6 : decode cX8_addWind 6 = .ok (.iconst 0, 1) := by decide +kernel
theorem dX8_addWind_7 : decode cX8_addWind 7 = .ok (.bipush 15, 2) := by decide +kernel
theorem dX8_addWind_9 : decode cX8_addWind 9 = .ok (.invokestatic 34, 3) := by decide +kernel
theorem dX8_addWind_12 : decode cX8_addWind 12 = .ok (.ifCond .eq 13, 3) := by decide +kernel
theorem dX8_addWind_15 : decode cX8_addWind 15 = .ok (.iload_n 2, 1) := by decide +kernel
theorem dX8_addWind_16 : decode cX8_addWind 16 = .ok (.iconst 0, 1) := by decide +kernel
theorem dX8_addWind_17 : decode cX8_addWind 17 = .ok (.bipush 9, 2) := by decide +kernel
theorem dX8_addWind_19 : decode cX8_addWind 19 = .ok (.invokestatic 34, 3) := by decide +kernel
theorem dX8_addWind_22 : decode cX8_addWind 22 = .ok (.ifCond .ne 9, 3) := by decide +kernel
theorem dX8_addWind_25 : decode cX8_addWind 25 = .ok (.aload_n 0, 1) := by decide +kernel
theorem dX8_addWind_26 : decode cX8_addWind 26 = .ok (.iconst 1, 1) := by decide +kernel
theorem dX8_addWind_27 : decode cX8_addWind 27 = .ok (.invokevirtual 38, 3) := by decide +kernel
theorem dX8_addWind_30 : decode cX8_addWind 30 = .ok (.ireturn, 1) := by decide +kernel
theorem dX8_addWind_31 : decode cX8_addWind 31 = .ok (.aload_n 0, 1) := by decide +kernel
theorem dX8_addWind_32 : decode cX8_addWind 32 = .ok (.getfield 10, 3) := by decide +kernel
theorem dX8_addWind_35 : decode cX8_addWind 35 = .ok (.getfield 42, 3) := by decide +kernel
theorem dX8_addWind_38 : decode cX8_addWind 38 = .ok (.bipush 24, 2) := by decide +kernel
theorem dX8_addWind_40 : decode cX8_addWind 40 = .ok (.if_icmp .ne 9, 3) := by decide +kernel
theorem dX8_addWind_43 : decode cX8_addWind 43 = .ok (.aload_n 0, 1) := by decide +kernel
theorem dX8_addWind_44 : decode cX8_addWind 44 = .ok (.iconst 2, 1) := by decide +kernel
theorem dX8_addWind_45 : decode cX8_addWind 45 = .ok (.invokevirtual 38, 3) := by decide +kernel
theorem dX8_addWind_48 : decode cX8_addWind 48 = .ok (.ireturn, 1) := by decide +kernel
theorem dX8_addWind_49 : decode cX8_addWind 49 = .ok (.aload_n 0, 1) := by decide +kernel
theorem dX8_addWind_50 : decode cX8_addWind 50 = .ok (.aload_n 0, 1) := by decide +kernel
theorem dX8_addWind_51 : decode cX8_addWind 51 = .ok (.getfield 10, 3) := by decide +kernel
theorem dX8_addWind_54 : decode cX8_addWind 54 = .ok (.getfield 42, 3) := by decide +kernel
theorem dX8_addWind_57 : decode cX8_addWind 57 = .ok (.iload_n 1, 1) := by decide +kernel
theorem dX8_addWind_58 : decode cX8_addWind 58 = .ok (.iload_n 2, 1) := by decide +kernel
theorem dX8_addWind_59 : decode cX8_addWind 59 = .ok (.iload_n 3, 1) := by decide +kernel
theorem dX8_addWind_60 : decode cX8_addWind 60 = .ok (.invokevirtual 45, 3) := by decide +kernel
theorem dX8_addWind_63 : decode cX8_addWind 63 = .ok (.aload_n 0, 1) := by decide +kernel
theorem dX8_addWind_64 : decode cX8_addWind 64 = .ok (.getfield 10, 3) := by decide +kernel
theorem dX8_addWind_67 : decode cX8_addWind 67 = .ok (.dup, 1) := by decide +kernel
theorem dX8_addWind_68 : decode cX8_addWind 68 = .ok (.getfield 42, 3) := by decide +kernel
theorem dX8_addWind_71 : decode cX8_addWind 71 = .ok (.iconst 1, 1) := by decide +kernel
theorem dX8_addWind_72 : decode cX8_addWind 72 = .ok (.iadd, 1) := by decide +kernel
theorem dX8_addWind_73 : decode cX8_addWind 73 = .ok (.putfield 42, 3) := by decide +kernel
theorem dX8_addWind_76 : decode cX8_addWind 76 = .ok (.aload_n 0, 1) := by decide +kernel
theorem dX8_addWind_77 : decode cX8_addWind 77 = .ok (.getfield 10, 3) := by decide +kernel
theorem dX8_addWind_80 : decode cX8_addWind 80 = .ok (.getfield 42, 3) := by decide +kernel
theorem dX8_addWind_83 : decode cX8_addWind 83 = .ok (.ireturn, 1) := by decide +kernel
theorem dX8_windTold_0 : decode cX8_windTold 0 = .ok (.iload_n 2, 1) := by decide +kernel
theorem dX8_windTold_1 : decode cX8_windTold 1 = .ok (.ifCond .ne 15, 3) := by decide +kernel
theorem dX8_windTold_4 : decode cX8_windTold 4 = .ok (.aload_n 0, 1) := by decide +kernel
theorem dX8_windTold_5 : decode cX8_windTold 5 = .ok (.getfield 10, 3) := by decide +kernel
theorem dX8_windTold_8 : decode cX8_windTold 8 = .ok (.getfield 23, 3) := by decide +kernel
theorem dX8_windTold_11 : decode cX8_windTold 11 = .ok (.iload_n 1, 1) := by decide +kernel
theorem dX8_windTold_12 : decode cX8_windTold 12 = .ok (.iaload, 1) := by decide +kernel
theorem dX8_windTold_13 : decode cX8_windTold 13 = .ok (.goto 37, 3) := by decide +kernel
theorem dX8_windTold_16 : decode cX8_windTold 16 = .ok (.iload_n 2, 1) := by decide +kernel
theorem dX8_windTold_17 : decode cX8_windTold 17 = .ok (.iconst 1, 1) := by decide +kernel
theorem dX8_windTold_18 : decode cX8_windTold 18 = .ok (.if_icmp .ne 15, 3) := by decide +kernel
theorem dX8_windTold_21 : decode cX8_windTold 21 = .ok (.aload_n 0, 1) := by decide +kernel
theorem dX8_windTold_22 : decode cX8_windTold 22 = .ok (.getfield 10, 3) := by decide +kernel
theorem dX8_windTold_25 : decode cX8_windTold 25 = .ok (.getfield 27, 3) := by decide +kernel
theorem dX8_windTold_28 : decode cX8_windTold 28 = .ok (.iload_n 1, 1) := by decide +kernel
theorem dX8_windTold_29 : decode cX8_windTold 29 = .ok (.iaload, 1) := by decide +kernel
theorem dX8_windTold_30 : decode cX8_windTold 30 = .ok (.goto 20, 3) := by decide +kernel
theorem dX8_windTold_33 : decode cX8_windTold 33 = .ok (.aload_n 0, 1) := by decide +kernel
theorem dX8_windTold_34 : decode cX8_windTold 34 = .ok (.getfield 10, 3) := by decide +kernel
theorem dX8_windTold_37 : decode cX8_windTold 37 = .ok (.getfield 30, 3) := by decide +kernel
theorem dX8_windTold_40 : decode cX8_windTold 40 = .ok (.iload_n 1, 1) := by decide +kernel
theorem dX8_windTold_41 : decode cX8_windTold 41 = .ok (.baload, 1) := by decide +kernel
theorem dX8_windTold_42 : decode cX8_windTold 42 = .ok (.ifCond .eq 7, 3) := by decide +kernel
theorem dX8_windTold_45 : decode cX8_windTold 45 = .ok (.iconst 1, 1) := by decide +kernel
theorem dX8_windTold_46 : decode cX8_windTold 46 = .ok (.goto 4, 3) := by decide +kernel
theorem dX8_windTold_49 : decode cX8_windTold 49 = .ok (.iconst 0, 1) := by decide +kernel
theorem dX8_windTold_50 : decode cX8_windTold 50 = .ok (.ireturn, 1) := by decide +kernel
theorem dX8_wind_0 : decode cX8_wind 0 = .ok (.aload_n 0, 1) := by decide +kernel
theorem dX8_wind_1 : decode cX8_wind 1 = .ok (.iconst 0, 1) := by decide +kernel
theorem dX8_wind_2 : decode cX8_wind 2 = .ok (.putfield 19, 3) := by decide +kernel
theorem dX8_wind_5 : decode cX8_wind 5 = .ok (.iload_n 1, 1) := by decide +kernel
theorem dX8_wind_6 : decode cX8_wind 6 = .ok (.ifCond .ge 9, 3) := by decide +kernel
theorem dX8_wind_9 : decode cX8_wind 9 = .ok (.aload_n 0, 1) := by decide +kernel
theorem dX8_wind_10 : decode cX8_wind 10 = .ok (.iconst 1, 1) := by decide +kernel
theorem dX8_wind_11 : decode cX8_wind 11 = .ok (.invokevirtual 38, 3) := by decide +kernel
theorem dX8_wind_14 : decode cX8_wind 14 = .ok (.ireturn, 1) := by decide +kernel
theorem dX8_wind_15 : decode cX8_wind 15 = .ok (.iload_n 2, 1) := by decide +kernel
theorem dX8_wind_16 : decode cX8_wind 16 = .ok (.iconst 0, 1) := by decide +kernel
theorem dX8_wind_17 : decode cX8_wind 17 = .ok (.iconst 2, 1) := by decide +kernel
theorem dX8_wind_18 : decode cX8_wind 18 = .ok (.invokestatic 34, 3) := by decide +kernel
theorem dX8_wind_21 : decode cX8_wind 21 = .ok (.ifCond .ne 9, 3) := by decide +kernel
theorem dX8_wind_24 : decode cX8_wind 24 = .ok (.aload_n 0, 1) := by decide +kernel
theorem dX8_wind_25 : decode cX8_wind 25 = .ok (.iconst 2, 1) := by decide +kernel
theorem dX8_wind_26 : decode cX8_wind 26 = .ok (.invokevirtual 38, 3) := by decide +kernel
theorem dX8_wind_29 : decode cX8_wind 29 = .ok (.ireturn, 1) := by decide +kernel
theorem dX8_wind_30 : decode cX8_wind 30 = .ok (.aload_n 0, 1) := by decide +kernel
theorem dX8_wind_31 : decode cX8_wind 31 = .ok (.iload_n 1, 1) := by decide +kernel
theorem dX8_wind_32 : decode cX8_wind 32 = .ok (.aload_n 0, 1) := by decide +kernel
theorem dX8_wind_33 : decode cX8_wind 33 = .ok (.getfield 10, 3) := by decide +kernel
theorem dX8_wind_36 : decode cX8_wind 36 = .ok (.getfield 42, 3) := by decide +kernel
theorem dX8_wind_39 : decode cX8_wind 39 = .ok (.irem, 1) := by decide +kernel
theorem dX8_wind_40 : decode cX8_wind 40 = .ok (.iload_n 2, 1) := by decide +kernel
theorem dX8_wind_41 : decode cX8_wind 41 = .ok (.invokevirtual 49, 3) := by decide +kernel
theorem dX8_wind_44 : decode cX8_wind 44 = .ok (.ireturn, 1) := by decide +kernel
theorem dX8_setUp_0 : decode cX8_setUp 0 = .ok (.aload_n 0, 1) := by decide +kernel
theorem dX8_setUp_1 : decode cX8_setUp 1 = .ok (.iconst 0, 1) := by decide +kernel
theorem dX8_setUp_2 : decode cX8_setUp 2 = .ok (.putfield 19, 3) := by decide +kernel
theorem dX8_setUp_5 : decode cX8_setUp 5 = .ok (.iload_n 1, 1) := by decide +kernel
theorem dX8_setUp_6 : decode cX8_setUp 6 = .ok (.iconst 0, 1) := by decide +kernel
theorem dX8_setUp_7 : decode cX8_setUp 7 = .ok (.bipush 11, 2) := by decide +kernel
theorem dX8_setUp_9 : decode cX8_setUp 9 = .ok (.invokestatic 34, 3) := by decide +kernel
theorem dX8_setUp_12 : decode cX8_setUp 12 = .ok (.ifCond .eq 56, 3) := by decide +kernel
theorem dX8_setUp_15 : decode cX8_setUp 15 = .ok (.iload_n 2, 1) := by decide +kernel
theorem dX8_setUp_16 : decode cX8_setUp 16 = .ok (.iconst 0, 1) := by decide +kernel
theorem dX8_setUp_17 : decode cX8_setUp 17 = .ok (.bipush 11, 2) := by decide +kernel
theorem dX8_setUp_19 : decode cX8_setUp 19 = .ok (.invokestatic 34, 3) := by decide +kernel
theorem dX8_setUp_22 : decode cX8_setUp 22 = .ok (.ifCond .eq 46, 3) := by decide +kernel
theorem dX8_setUp_25 : decode cX8_setUp 25 = .ok (.iload_n 3, 1) := by decide +kernel
theorem dX8_setUp_26 : decode cX8_setUp 26 = .ok (.iconst 1, 1) := by decide +kernel
theorem dX8_setUp_27 : decode cX8_setUp 27 = .ok (.bipush 9, 2) := by decide +kernel
theorem dX8_setUp_29 : decode cX8_setUp 29 = .ok (.invokestatic 34, 3) := by decide +kernel
theorem dX8_setUp_32 : decode cX8_setUp 32 = .ok (.ifCond .eq 36, 3) := by decide +kernel
theorem dX8_setUp_35 : decode cX8_setUp 35 = .ok (.iload 4, 2) := by decide +kernel
theorem dX8_setUp_37 : decode cX8_setUp 37 = .ok (.iconst 1, 1) := by decide +kernel
theorem dX8_setUp_38 : decode cX8_setUp 38 = .ok (.bipush 9, 2) := by decide +kernel
theorem dX8_setUp_40 : decode cX8_setUp 40 = .ok (.invokestatic 34, 3) := by decide +kernel
theorem dX8_setUp_43 : decode cX8_setUp 43 = .ok (.ifCond .eq 25, 3) := by decide +kernel
theorem dX8_setUp_46 : decode cX8_setUp 46 = .ok (.iload 5, 2) := by decide +kernel
theorem dX8_setUp_48 : decode cX8_setUp 48 = .ok (.iconst 0, 1) := by decide +kernel
theorem dX8_setUp_49 : decode cX8_setUp 49 = .ok (.bipush 9, 2) := by decide +kernel
theorem dX8_setUp_51 : decode cX8_setUp 51 = .ok (.invokestatic 34, 3) := by decide +kernel
theorem dX8_setUp_54 : decode cX8_setUp 54 = .ok (.ifCond .eq 14, 3) := by decide +kernel
theorem dX8_setUp_57 : decode cX8_setUp 57 = .ok (.iload 6, 2) := by decide +kernel
theorem dX8_setUp_59 : decode cX8_setUp 59 = .ok (.iconst 0, 1) := by decide +kernel
theorem dX8_setUp_60 : decode cX8_setUp 60 = .ok (.bipush 15, 2) := by decide +kernel
theorem dX8_setUp_62 : decode cX8_setUp 62 = .ok (.invokestatic 34, 3) := by decide +kernel
theorem dX8_setUp_65 : decode cX8_setUp 65 = .ok (.ifCond .ne 9, 3) := by decide +kernel
theorem dX8_setUp_68 : decode cX8_setUp 68 = .ok (.aload_n 0, 1) := by decide +kernel
theorem dX8_setUp_69 : decode cX8_setUp 69 = .ok (.iconst 1, 1) := by decide +kernel
theorem dX8_setUp_70 : decode cX8_setUp 70 = .ok (.invokevirtual 38, 3) := by decide +kernel
theorem dX8_setUp_73 : decode cX8_setUp 73 = .ok (.ireturn, 1) := by decide +kernel
theorem dX8_setUp_74 : decode cX8_setUp 74 = .ok (.aload_n 0, 1) := by decide +kernel
theorem dX8_setUp_75 : decode cX8_setUp 75 = .ok (.getfield 10, 3) := by decide +kernel
theorem dX8_setUp_78 : decode cX8_setUp 78 = .ok (.getfield 53, 3) := by decide +kernel
theorem dX8_setUp_81 : decode cX8_setUp 81 = .ok (.bipush 16, 2) := by decide +kernel
theorem dX8_setUp_83 : decode cX8_setUp 83 = .ok (.if_icmp .ge 7, 3) := by decide +kernel
theorem dX8_setUp_86 : decode cX8_setUp 86 = .ok (.iconst 1, 1) := by decide +kernel
theorem dX8_setUp_87 : decode cX8_setUp 87 = .ok (.goto 4, 3) := by decide +kernel
theorem dX8_setUp_90 : decode cX8_setUp 90 = .ok (.iconst 0, 1) := by decide +kernel
theorem dX8_setUp_91 : decode cX8_setUp 91 = .ok (.istore 7, 2) := by decide +kernel
theorem dX8_setUp_93 : decode cX8_setUp 93 = .ok (.iconst 0, 1) := by decide +kernel
theorem dX8_setUp_94 : decode cX8_setUp 94 = .ok (.istore 8, 2) := by decide +kernel
theorem dX8_setUp_96 : decode cX8_setUp 96 = .ok (.iload 8, 2) := by decide +kernel
theorem dX8_setUp_98 : decode cX8_setUp 98 = .ok (.aload_n 0, 1) := by decide +kernel
theorem dX8_setUp_99 : decode cX8_setUp 99 = .ok (.getfield 10, 3) := by decide +kernel
theorem dX8_setUp_102 : decode cX8_setUp 102 = .ok (.getfield 53, 3) := by decide +kernel
theorem dX8_setUp_105 : decode cX8_setUp 105 = .ok (.if_icmp .ge 49, 3) := by decide +kernel
theorem dX8_setUp_108 : decode cX8_setUp 108 = .ok (.iload 7, 2) := by decide +kernel
theorem dX8_setUp_110 : decode cX8_setUp 110 = .ok (.ifCond .eq 35, 3) := by decide +kernel
theorem dX8_setUp_113 : decode cX8_setUp 113 = .ok (.aload_n 0, 1) := by decide +kernel
theorem dX8_setUp_114 : decode cX8_setUp 114 = .ok (.getfield 10, 3) := by decide +kernel
theorem dX8_setUp_117 : decode cX8_setUp 117 = .ok (.iload 8, 2) := by decide +kernel
theorem dX8_setUp_119 : decode cX8_setUp 119 = .ok (.iconst 0, 1) := by decide +kernel
theorem dX8_setUp_120 : decode cX8_setUp 120 = .ok (.invokevirtual 56, 3) := by decide +kernel
theorem dX8_setUp_123 : decode cX8_setUp 123 = .ok (.iload_n 1, 1) := by decide +kernel
theorem dX8_setUp_124 : decode cX8_setUp 124 = .ok (.if_icmp .ne 17, 3) := by decide +kernel
theorem dX8_setUp_127 : decode cX8_setUp 127 = .ok (.aload_n 0, 1) := by decide +kernel
theorem dX8_setUp_128 : decode cX8_setUp 128 = .ok (.getfield 10, 3) := by decide +kernel
theorem dX8_setUp_131 : decode cX8_setUp 131 = .ok (.iload 8, 2) := by decide +kernel
theorem dX8_setUp_133 : decode cX8_setUp 133 = .ok (.iconst 1, 1) := by decide +kernel
theorem dX8_setUp_134 : decode cX8_setUp 134 = .ok (.invokevirtual 56, 3) := by decide +kernel
theorem dX8_setUp_137 : decode cX8_setUp 137 = .ok (.iload_n 2, 1) := by decide +kernel
theorem dX8_setUp_138 : decode cX8_setUp 138 = .ok (.if_icmp .eq 7, 3) := by decide +kernel
theorem dX8_setUp_141 : decode cX8_setUp 141 = .ok (.iconst 1, 1) := by decide +kernel
theorem dX8_setUp_142 : decode cX8_setUp 142 = .ok (.goto 4, 3) := by decide +kernel
theorem dX8_setUp_145 : decode cX8_setUp 145 = .ok (.iconst 0, 1) := by decide +kernel
theorem dX8_setUp_146 : decode cX8_setUp 146 = .ok (.istore 7, 2) := by decide +kernel
theorem dX8_setUp_148 : decode cX8_setUp 148 = .ok (.iinc 8 1, 3) := by decide +kernel
theorem dX8_setUp_151 : decode cX8_setUp 151 = .ok (.goto (-55), 3) := by decide +kernel
theorem dX8_setUp_154 : decode cX8_setUp 154 = .ok (.iload 7, 2) := by decide +kernel
theorem dX8_setUp_156 : decode cX8_setUp 156 = .ok (.ifCond .ne 9, 3) := by decide +kernel
theorem dX8_setUp_159 : decode cX8_setUp 159 = .ok (.aload_n 0, 1) := by decide +kernel
theorem dX8_setUp_160 : decode cX8_setUp 160 = .ok (.iconst 2, 1) := by decide +kernel
theorem dX8_setUp_161 : decode cX8_setUp 161 = .ok (.invokevirtual 38, 3) := by decide +kernel
theorem dX8_setUp_164 : decode cX8_setUp 164 = .ok (.ireturn, 1) := by decide +kernel
theorem dX8_setUp_165 : decode cX8_setUp 165 = .ok (.bipush 10, 2) := by decide +kernel
theorem dX8_setUp_167 : decode cX8_setUp 167 = .ok (.newarray .int, 2) := by decide +kernel
theorem dX8_setUp_169 : decode cX8_setUp 169 = .ok (.dup, 1) := by decide +kernel
theorem dX8_setUp_170 : decode cX8_setUp 170 = .ok (.iconst 0, 1) := by decide +kernel
theorem dX8_setUp_171 : decode cX8_setUp 171 = .ok (.iload_n 1, 1) := by decide +kernel
theorem dX8_setUp_172 : decode cX8_setUp 172 = .ok (.iastore, 1) := by decide +kernel
theorem dX8_setUp_173 : decode cX8_setUp 173 = .ok (.dup, 1) := by decide +kernel
theorem dX8_setUp_174 : decode cX8_setUp 174 = .ok (.iconst 1, 1) := by decide +kernel
theorem dX8_setUp_175 : decode cX8_setUp 175 = .ok (.iload_n 2, 1) := by decide +kernel
theorem dX8_setUp_176 : decode cX8_setUp 176 = .ok (.iastore, 1) := by decide +kernel
theorem dX8_setUp_177 : decode cX8_setUp 177 = .ok (.dup, 1) := by decide +kernel
theorem dX8_setUp_178 : decode cX8_setUp 178 = .ok (.iconst 2, 1) := by decide +kernel
theorem dX8_setUp_179 : decode cX8_setUp 179 = .ok (.iload_n 3, 1) := by decide +kernel
theorem dX8_setUp_180 : decode cX8_setUp 180 = .ok (.iastore, 1) := by decide +kernel
theorem dX8_setUp_181 : decode cX8_setUp 181 = .ok (.dup, 1) := by decide +kernel
theorem dX8_setUp_182 : decode cX8_setUp 182 = .ok (.iconst 3, 1) := by decide +kernel
theorem dX8_setUp_183 : decode cX8_setUp 183 = .ok (.iload 4, 2) := by decide +kernel
theorem dX8_setUp_185 : decode cX8_setUp 185 = .ok (.iastore, 1) := by decide +kernel
theorem dX8_setUp_186 : decode cX8_setUp 186 = .ok (.dup, 1) := by decide +kernel
theorem dX8_setUp_187 : decode cX8_setUp 187 = .ok (.iconst 4, 1) := by decide +kernel
theorem dX8_setUp_188 : decode cX8_setUp 188 = .ok (.iload 5, 2) := by decide +kernel
theorem dX8_setUp_190 : decode cX8_setUp 190 = .ok (.iastore, 1) := by decide +kernel
theorem dX8_setUp_191 : decode cX8_setUp 191 = .ok (.dup, 1) := by decide +kernel
theorem dX8_setUp_192 : decode cX8_setUp 192 = .ok (.iconst 5, 1) := by decide +kernel
theorem dX8_setUp_193 : decode cX8_setUp 193 = .ok (.iconst 0, 1) := by decide +kernel
theorem dX8_setUp_194 : decode cX8_setUp 194 = .ok (.iastore, 1) := by decide +kernel
theorem dX8_setUp_195 : decode cX8_setUp 195 = .ok (.dup, 1) := by decide +kernel
theorem dX8_setUp_196 : decode cX8_setUp 196 = .ok (.bipush 6, 2) := by decide +kernel
theorem dX8_setUp_198 : decode cX8_setUp 198 = .ok (.iload 6, 2) := by decide +kernel
theorem dX8_setUp_200 : decode cX8_setUp 200 = .ok (.iastore, 1) := by decide +kernel
theorem dX8_setUp_201 : decode cX8_setUp 201 = .ok (.dup, 1) := by decide +kernel
theorem dX8_setUp_202 : decode cX8_setUp 202 = .ok (.bipush 7, 2) := by decide +kernel
theorem dX8_setUp_204 : decode cX8_setUp 204 = .ok (.iconst 0, 1) := by decide +kernel
theorem dX8_setUp_205 : decode cX8_setUp 205 = .ok (.iastore, 1) := by decide +kernel
theorem dX8_setUp_206 : decode cX8_setUp 206 = .ok (.dup, 1) := by decide +kernel
theorem dX8_setUp_207 : decode cX8_setUp 207 = .ok (.bipush 8, 2) := by decide +kernel
theorem dX8_setUp_209 : decode cX8_setUp 209 = .ok (.iconst 0, 1) := by decide +kernel
theorem dX8_setUp_210 : decode cX8_setUp 210 = .ok (.iastore, 1) := by decide +kernel
theorem dX8_setUp_211 : decode cX8_setUp 211 = .ok (.dup, 1) := by decide +kernel
theorem dX8_setUp_212 : decode cX8_setUp 212 = .ok (.bipush 9, 2) := by decide +kernel
theorem dX8_setUp_214 : decode cX8_setUp 214 = .ok (.iconst 0, 1) := by decide +kernel
theorem dX8_setUp_215 : decode cX8_setUp 215 = .ok (.iastore, 1) := by decide +kernel
theorem dX8_setUp_216 : decode cX8_setUp 216 = .ok (.astore 8, 2) := by decide +kernel
theorem dX8_setUp_218 : decode cX8_setUp 218 = .ok (.aload 8, 2) := by decide +kernel
theorem dX8_setUp_220 : decode cX8_setUp 220 = .ok (.iconst 0, 1) := by decide +kernel
theorem dX8_setUp_221 : decode cX8_setUp 221 = .ok (.aload_n 0, 1) := by decide +kernel
theorem dX8_setUp_222 : decode cX8_setUp 222 = .ok (.getfield 10, 3) := by decide +kernel
theorem dX8_setUp_225 : decode cX8_setUp 225 = .ok (.getfield 59, 3) := by decide +kernel
theorem dX8_setUp_228 : decode cX8_setUp 228 = .ok (.bipush 10, 2) := by decide +kernel
theorem dX8_setUp_230 : decode cX8_setUp 230 = .ok (.aload_n 0, 1) := by decide +kernel
theorem dX8_setUp_231 : decode cX8_setUp 231 = .ok (.getfield 10, 3) := by decide +kernel
theorem dX8_setUp_234 : decode cX8_setUp 234 = .ok (.getfield 53, 3) := by decide +kernel
theorem dX8_setUp_237 : decode cX8_setUp 237 = .ok (.imul, 1) := by decide +kernel
theorem dX8_setUp_238 : decode cX8_setUp 238 = .ok (.bipush 10, 2) := by decide +kernel
theorem dX8_setUp_240 : decode cX8_setUp 240 = .ok (.invokestatic 62, 3) := by decide +kernel
theorem dX8_setUp_243 : decode cX8_setUp 243 = .ok (.aload_n 0, 1) := by decide +kernel
theorem dX8_setUp_244 : decode cX8_setUp 244 = .ok (.getfield 10, 3) := by decide +kernel
theorem dX8_setUp_247 : decode cX8_setUp 247 = .ok (.dup, 1) := by decide +kernel
theorem dX8_setUp_248 : decode cX8_setUp 248 = .ok (.getfield 53, 3) := by decide +kernel
theorem dX8_setUp_251 : decode cX8_setUp 251 = .ok (.iconst 1, 1) := by decide +kernel
theorem dX8_setUp_252 : decode cX8_setUp 252 = .ok (.iadd, 1) := by decide +kernel
theorem dX8_setUp_253 : decode cX8_setUp 253 = .ok (.putfield 53, 3) := by decide +kernel
theorem dX8_setUp_256 : decode cX8_setUp 256 = .ok (.aload_n 0, 1) := by decide +kernel
theorem dX8_setUp_257 : decode cX8_setUp 257 = .ok (.getfield 10, 3) := by decide +kernel
theorem dX8_setUp_260 : decode cX8_setUp 260 = .ok (.getfield 53, 3) := by decide +kernel
theorem dX8_setUp_263 : decode cX8_setUp 263 = .ok (.iconst 1, 1) := by decide +kernel
theorem dX8_setUp_264 : decode cX8_setUp 264 = .ok (.isub, 1) := by decide +kernel
theorem dX8_setUp_265 : decode cX8_setUp 265 = .ok (.ireturn, 1) := by decide +kernel
theorem dX8_isVane_0 : decode cX8_isVane 0 = .ok (.iload_n 1, 1) := by decide +kernel
theorem dX8_isVane_1 : decode cX8_isVane 1 = .ok (.iconst 0, 1) := by decide +kernel
theorem dX8_isVane_2 : decode cX8_isVane 2 = .ok (.aload_n 0, 1) := by decide +kernel
theorem dX8_isVane_3 : decode cX8_isVane 3 = .ok (.getfield 10, 3) := by decide +kernel
theorem dX8_isVane_6 : decode cX8_isVane 6 = .ok (.getfield 53, 3) := by decide +kernel
theorem dX8_isVane_9 : decode cX8_isVane 9 = .ok (.iconst 1, 1) := by decide +kernel
theorem dX8_isVane_10 : decode cX8_isVane 10 = .ok (.isub, 1) := by decide +kernel
theorem dX8_isVane_11 : decode cX8_isVane 11 = .ok (.invokestatic 34, 3) := by decide +kernel
theorem dX8_isVane_14 : decode cX8_isVane 14 = .ok (.ireturn, 1) := by decide +kernel
theorem dX8_oil_0 : decode cX8_oil 0 = .ok (.aload_n 0, 1) := by decide +kernel
theorem dX8_oil_1 : decode cX8_oil 1 = .ok (.iconst 0, 1) := by decide +kernel
theorem dX8_oil_2 : decode cX8_oil 2 = .ok (.putfield 19, 3) := by decide +kernel
theorem dX8_oil_5 : decode cX8_oil 5 = .ok (.aload_n 0, 1) := by decide +kernel
theorem dX8_oil_6 : decode cX8_oil 6 = .ok (.iload_n 1, 1) := by decide +kernel
theorem dX8_oil_7 : decode cX8_oil 7 = .ok (.invokevirtual 68, 3) := by decide +kernel
theorem dX8_oil_10 : decode cX8_oil 10 = .ok (.ifCond .ne 9, 3) := by decide +kernel
theorem dX8_oil_13 : decode cX8_oil 13 = .ok (.aload_n 0, 1) := by decide +kernel
theorem dX8_oil_14 : decode cX8_oil 14 = .ok (.iconst 1, 1) := by decide +kernel
theorem dX8_oil_15 : decode cX8_oil 15 = .ok (.invokevirtual 38, 3) := by decide +kernel
theorem dX8_oil_18 : decode cX8_oil 18 = .ok (.ireturn, 1) := by decide +kernel
theorem dX8_oil_19 : decode cX8_oil 19 = .ok (.aload_n 0, 1) := by decide +kernel
theorem dX8_oil_20 : decode cX8_oil 20 = .ok (.getfield 10, 3) := by decide +kernel
theorem dX8_oil_23 : decode cX8_oil 23 = .ok (.iload_n 1, 1) := by decide +kernel
theorem dX8_oil_24 : decode cX8_oil 24 = .ok (.iconst 5, 1) := by decide +kernel
theorem dX8_oil_25 : decode cX8_oil 25 = .ok (.invokevirtual 56, 3) := by decide +kernel
theorem dX8_oil_28 : decode cX8_oil 28 = .ok (.istore_n 2, 1) := by decide +kernel
theorem dX8_oil_29 : decode cX8_oil 29 = .ok (.aload_n 0, 1) := by decide +kernel
theorem dX8_oil_30 : decode cX8_oil 30 = .ok (.getfield 10, 3) := by decide +kernel
theorem dX8_oil_33 : decode cX8_oil 33 = .ok (.iload_n 1, 1) := by decide +kernel
theorem dX8_oil_34 : decode cX8_oil 34 = .ok (.invokevirtual 72, 3) := by decide +kernel
theorem dX8_oil_37 : decode cX8_oil 37 = .ok (.iload_n 2, 1) := by decide +kernel
theorem dX8_oil_38 : decode cX8_oil 38 = .ok (.ireturn, 1) := by decide +kernel
theorem dX8_turn_0 : decode cX8_turn 0 = .ok (.aload_n 0, 1) := by decide +kernel
theorem dX8_turn_1 : decode cX8_turn 1 = .ok (.iconst 0, 1) := by decide +kernel
theorem dX8_turn_2 : decode cX8_turn 2 = .ok (.putfield 19, 3) := by decide +kernel
theorem dX8_turn_5 : decode cX8_turn 5 = .ok (.aload_n 0, 1) := by decide +kernel
theorem dX8_turn_6 : decode cX8_turn 6 = .ok (.iload_n 1, 1) := by decide +kernel
theorem dX8_turn_7 : decode cX8_turn 7 = .ok (.invokevirtual 68, 3) := by decide +kernel
theorem dX8_turn_10 : decode cX8_turn 10 = .ok (.ifCond .ne 9, 3) := by decide +kernel
theorem dX8_turn_13 : decode cX8_turn 13 = .ok (.aload_n 0, 1) := by decide +kernel
theorem dX8_turn_14 : decode cX8_turn 14 = .ok (.iconst 1, 1) := by decide +kernel
theorem dX8_turn_15 : decode cX8_turn 15 = .ok (.invokevirtual 38, 3) := by decide +kernel
theorem dX8_turn_18 : decode cX8_turn 18 = .ok (.ireturn, 1) := by decide +kernel
theorem dX8_turn_19 : decode cX8_turn 19 = .ok (.iload_n 2, 1) := by decide +kernel
theorem dX8_turn_20 : decode cX8_turn 20 = .ok (.iconst 0, 1) := by decide +kernel
theorem dX8_turn_21 : decode cX8_turn 21 = .ok (.bipush 15, 2) := by decide +kernel
theorem dX8_turn_23 : decode cX8_turn 23 = .ok (.invokestatic 34, 3) := by decide +kernel
theorem dX8_turn_26 : decode cX8_turn 26 = .ok (.ifCond .ne 9, 3) := by decide +kernel
theorem dX8_turn_29 : decode cX8_turn 29 = .ok (.aload_n 0, 1) := by decide +kernel
theorem dX8_turn_30 : decode cX8_turn 30 = .ok (.iconst 2, 1) := by decide +kernel
theorem dX8_turn_31 : decode cX8_turn 31 = .ok (.invokevirtual 38, 3) := by decide +kernel
theorem dX8_turn_34 : decode cX8_turn 34 = .ok (.ireturn, 1) := by decide +kernel
theorem dX8_turn_35 : decode cX8_turn 35 = .ok (.aload_n 0, 1) := by decide +kernel
theorem dX8_turn_36 : decode cX8_turn 36 = .ok (.getfield 10, 3) := by decide +kernel
theorem dX8_turn_39 : decode cX8_turn 39 = .ok (.iload_n 1, 1) := by decide +kernel
theorem dX8_turn_40 : decode cX8_turn 40 = .ok (.bipush 8, 2) := by decide +kernel
theorem dX8_turn_42 : decode cX8_turn 42 = .ok (.invokevirtual 56, 3) := by decide +kernel
theorem dX8_turn_45 : decode cX8_turn 45 = .ok (.ifCond .le 9, 3) := by decide +kernel
theorem dX8_turn_48 : decode cX8_turn 48 = .ok (.aload_n 0, 1) := by decide +kernel
theorem dX8_turn_49 : decode cX8_turn 49 = .ok (.iconst 3, 1) := by decide +kernel
theorem dX8_turn_50 : decode cX8_turn 50 = .ok (.invokevirtual 38, 3) := by decide +kernel
theorem dX8_turn_53 : decode cX8_turn 53 = .ok (.ireturn, 1) := by decide +kernel
theorem dX8_turn_54 : decode cX8_turn 54 = .ok (.aload_n 0, 1) := by decide +kernel
theorem dX8_turn_55 : decode cX8_turn 55 = .ok (.getfield 10, 3) := by decide +kernel
theorem dX8_turn_58 : decode cX8_turn 58 = .ok (.iload_n 1, 1) := by decide +kernel
theorem dX8_turn_59 : decode cX8_turn 59 = .ok (.bipush 6, 2) := by decide +kernel
theorem dX8_turn_61 : decode cX8_turn 61 = .ok (.invokevirtual 56, 3) := by decide +kernel
theorem dX8_turn_64 : decode cX8_turn 64 = .ok (.istore_n 3, 1) := by decide +kernel
theorem dX8_turn_65 : decode cX8_turn 65 = .ok (.aload_n 0, 1) := by decide +kernel
theorem dX8_turn_66 : decode cX8_turn 66 = .ok (.getfield 10, 3) := by decide +kernel
theorem dX8_turn_69 : decode cX8_turn 69 = .ok (.iload_n 1, 1) := by decide +kernel
theorem dX8_turn_70 : decode cX8_turn 70 = .ok (.bipush 6, 2) := by decide +kernel
theorem dX8_turn_72 : decode cX8_turn 72 = .ok (.iload_n 2, 1) := by decide +kernel
theorem dX8_turn_73 : decode cX8_turn 73 = .ok (.invokevirtual 76, 3) := by decide +kernel
theorem dX8_turn_76 : decode cX8_turn 76 = .ok (.aload_n 0, 1) := by decide +kernel
theorem dX8_turn_77 : decode cX8_turn 77 = .ok (.getfield 10, 3) := by decide +kernel
theorem dX8_turn_80 : decode cX8_turn 80 = .ok (.iload_n 1, 1) := by decide +kernel
theorem dX8_turn_81 : decode cX8_turn 81 = .ok (.bipush 7, 2) := by decide +kernel
theorem dX8_turn_83 : decode cX8_turn 83 = .ok (.iconst 0, 1) := by decide +kernel
theorem dX8_turn_84 : decode cX8_turn 84 = .ok (.invokevirtual 76, 3) := by decide +kernel
theorem dX8_turn_87 : decode cX8_turn 87 = .ok (.iload_n 3, 1) := by decide +kernel
theorem dX8_turn_88 : decode cX8_turn 88 = .ok (.ireturn, 1) := by decide +kernel
theorem dX8_partyOf_0 : decode cX8_partyOf 0 = .ok (.aload_n 0, 1) := by decide +kernel
theorem dX8_partyOf_1 : decode cX8_partyOf 1 = .ok (.getfield 10, 3) := by decide +kernel
theorem dX8_partyOf_4 : decode cX8_partyOf 4 = .ok (.iload_n 1, 1) := by decide +kernel
theorem dX8_partyOf_5 : decode cX8_partyOf 5 = .ok (.bipush 6, 2) := by decide +kernel
theorem dX8_partyOf_7 : decode cX8_partyOf 7 = .ok (.invokevirtual 56, 3) := by decide +kernel
theorem dX8_partyOf_10 : decode cX8_partyOf 10 = .ok (.iconst 2, 1) := by decide +kernel
theorem dX8_partyOf_11 : decode cX8_partyOf 11 = .ok (.iadd, 1) := by decide +kernel
theorem dX8_partyOf_12 : decode cX8_partyOf 12 = .ok (.iconst 4, 1) := by decide +kernel
theorem dX8_partyOf_13 : decode cX8_partyOf 13 = .ok (.idiv, 1) := by decide +kernel
theorem dX8_partyOf_14 : decode cX8_partyOf 14 = .ok (.iconst 4, 1) := by decide +kernel
theorem dX8_partyOf_15 : decode cX8_partyOf 15 = .ok (.irem, 1) := by decide +kernel
theorem dX8_partyOf_16 : decode cX8_partyOf 16 = .ok (.ireturn, 1) := by decide +kernel
theorem dX8_vaneTold_0 : decode cX8_vaneTold 0 = .ok (.iload_n 2, 1) := by decide +kernel
theorem dX8_vaneTold_1 : decode cX8_vaneTold 1 = .ok (.bipush 9, 2) := by decide +kernel
theorem dX8_vaneTold_3 : decode cX8_vaneTold 3 = .ok (.if_icmp .ge 15, 3) := by decide +kernel
theorem dX8_vaneTold_6 : decode cX8_vaneTold 6 = .ok (.aload_n 0, 1) := by decide +kernel
theorem dX8_vaneTold_7 : decode cX8_vaneTold 7 = .ok (.getfield 10, 3) := by decide +kernel
theorem dX8_vaneTold_10 : decode cX8_vaneTold 10 = .ok (.iload_n 1, 1) := by decide +kernel
theorem dX8_vaneTold_11 : decode cX8_vaneTold 11 = .ok (.iload_n 2, 1) := by decide +kernel
theorem dX8_vaneTold_12 : decode cX8_vaneTold 12 = .ok (.invokevirtual 56, 3) := by decide +kernel
theorem dX8_vaneTold_15 : decode cX8_vaneTold 15 = .ok (.goto 42, 3) := by decide +kernel
theorem dX8_vaneTold_18 : decode cX8_vaneTold 18 = .ok (.iload_n 2, 1) := by decide +kernel
theorem dX8_vaneTold_19 : decode cX8_vaneTold 19 = .ok (.bipush 9, 2) := by decide +kernel
theorem dX8_vaneTold_21 : decode cX8_vaneTold 21 = .ok (.if_icmp .ne 11, 3) := by decide +kernel
theorem dX8_vaneTold_24 : decode cX8_vaneTold 24 = .ok (.aload_n 0, 1) := by decide +kernel
theorem dX8_vaneTold_25 : decode cX8_vaneTold 25 = .ok (.iload_n 1, 1) := by decide +kernel
theorem dX8_vaneTold_26 : decode cX8_vaneTold 26 = .ok (.invokevirtual 80, 3) := by decide +kernel
theorem dX8_vaneTold_29 : decode cX8_vaneTold 29 = .ok (.goto 28, 3) := by decide +kernel
theorem dX8_vaneTold_32 : decode cX8_vaneTold 32 = .ok (.iload_n 2, 1) := by decide +kernel
theorem dX8_vaneTold_33 : decode cX8_vaneTold 33 = .ok (.bipush 10, 2) := by decide +kernel
theorem dX8_vaneTold_35 : decode cX8_vaneTold 35 = .ok (.if_icmp .ne 14, 3) := by decide +kernel
theorem dX8_vaneTold_38 : decode cX8_vaneTold 38 = .ok (.aload_n 0, 1) := by decide +kernel
theorem dX8_vaneTold_39 : decode cX8_vaneTold 39 = .ok (.getfield 10, 3) := by decide +kernel
theorem dX8_vaneTold_42 : decode cX8_vaneTold 42 = .ok (.iload_n 1, 1) := by decide +kernel
theorem dX8_vaneTold_43 : decode cX8_vaneTold 43 = .ok (.invokevirtual 83, 3) := by decide +kernel
theorem dX8_vaneTold_46 : decode cX8_vaneTold 46 = .ok (.goto 11, 3) := by decide +kernel
theorem dX8_vaneTold_49 : decode cX8_vaneTold 49 = .ok (.aload_n 0, 1) := by decide +kernel
theorem dX8_vaneTold_50 : decode cX8_vaneTold 50 = .ok (.getfield 10, 3) := by decide +kernel
theorem dX8_vaneTold_53 : decode cX8_vaneTold 53 = .ok (.iload_n 1, 1) := by decide +kernel
theorem dX8_vaneTold_54 : decode cX8_vaneTold 54 = .ok (.invokevirtual 86, 3) := by decide +kernel
theorem dX8_vaneTold_57 : decode cX8_vaneTold 57 = .ok (.ireturn, 1) := by decide +kernel
theorem dX8_vane_0 : decode cX8_vane 0 = .ok (.aload_n 0, 1) := by decide +kernel
theorem dX8_vane_1 : decode cX8_vane 1 = .ok (.iconst 0, 1) := by decide +kernel
theorem dX8_vane_2 : decode cX8_vane 2 = .ok (.putfield 19, 3) := by decide +kernel
theorem dX8_vane_5 : decode cX8_vane 5 = .ok (.aload_n 0, 1) := by decide +kernel
theorem dX8_vane_6 : decode cX8_vane 6 = .ok (.iload_n 1, 1) := by decide +kernel
theorem dX8_vane_7 : decode cX8_vane 7 = .ok (.invokevirtual 68, 3) := by decide +kernel
theorem dX8_vane_10 : decode cX8_vane 10 = .ok (.ifCond .eq 22, 3) := by decide +kernel
theorem dX8_vane_13 : decode cX8_vane 13 = .ok (.iload_n 2, 1) := by decide +kernel
theorem dX8_vane_14 : decode cX8_vane 14 = .ok (.iconst 0, 1) := by decide +kernel
theorem dX8_vane_15 : decode cX8_vane 15 = .ok (.bipush 11, 2) := by decide +kernel
theorem dX8_vane_17 : decode cX8_vane 17 = .ok (.invokestatic 34, 3) := by decide +kernel
theorem dX8_vane_20 : decode cX8_vane 20 = .ok (.ifCond .eq 12, 3) := by decide +kernel
theorem dX8_vane_23 : decode cX8_vane 23 = .ok (.aload_n 0, 1) := by decide +kernel
theorem dX8_vane_24 : decode cX8_vane 24 = .ok (.iload_n 1, 1) := by decide +kernel
theorem dX8_vane_25 : decode cX8_vane 25 = .ok (.iload_n 2, 1) := by decide +kernel
theorem dX8_vane_26 : decode cX8_vane 26 = .ok (.invokevirtual 89, 3) := by decide +kernel
theorem dX8_vane_29 : decode cX8_vane 29 = .ok (.goto 8, 3) := by decide +kernel
theorem dX8_vane_32 : decode cX8_vane 32 = .ok (.aload_n 0, 1) := by decide +kernel
theorem dX8_vane_33 : decode cX8_vane 33 = .ok (.iconst 1, 1) := by decide +kernel
theorem dX8_vane_34 : decode cX8_vane 34 = .ok (.invokevirtual 38, 3) := by decide +kernel
theorem dX8_vane_37 : decode cX8_vane 37 = .ok (.ireturn, 1) := by decide +kernel
theorem dX8_difference_0 : decode cX8_difference 0 = .ok (.aload_n 0, 1) := by decide +kernel
theorem dX8_difference_1 : decode cX8_difference 1 = .ok (.iconst 0, 1) := by decide +kernel
theorem dX8_difference_2 : decode cX8_difference 2 = .ok (.putfield 19, 3) := by decide +kernel
theorem dX8_difference_5 : decode cX8_difference 5 = .ok (.iload_n 1, 1) := by decide +kernel
theorem dX8_difference_6 : decode cX8_difference 6 = .ok (.iconst 0, 1) := by decide +kernel
theorem dX8_difference_7 : decode cX8_difference 7 = .ok (.bipush 15, 2) := by decide +kernel
theorem dX8_difference_9 : decode cX8_difference 9 = .ok (.invokestatic 34, 3) := by decide +kernel
theorem dX8_difference_12 : decode cX8_difference 12 = .ok (.ifCond .eq 21, 3) := by decide +kernel
theorem dX8_difference_15 : decode cX8_difference 15 = .ok (.iload_n 2, 1) := by decide +kernel
theorem dX8_difference_16 : decode cX8_difference 16 = .ok (.iconst 0, 1) := by decide +kernel
theorem dX8_difference_17 : decode cX8_difference 17 = .ok (.bipush 15, 2) := by decide +kernel
theorem dX8_difference_19 : decode cX8_difference 19 = .ok (.invokestatic 34, 3) := by decide +kernel
theorem dX8_difference_22 : decode cX8_difference 22 = .ok (.ifCond .eq 11, 3) := by decide +kernel
theorem dX8_difference_25 : decode cX8_difference 25 = .ok (.iload_n 1, 1) := by decide +kernel
theorem dX8_difference_26 : decode cX8_difference 26 = .ok (.iload_n 2, 1) := by decide +kernel
theorem dX8_difference_27 : decode cX8_difference 27 = .ok (.invokestatic 92, 3) := by decide +kernel
theorem dX8_difference_30 : decode cX8_difference 30 = .ok (.goto 8, 3) := by decide +kernel
theorem dX8_difference_33 : decode cX8_difference 33 = .ok (.aload_n 0, 1) := by decide +kernel
theorem dX8_difference_34 : decode cX8_difference 34 = .ok (.iconst 1, 1) := by decide +kernel
theorem dX8_difference_35 : decode cX8_difference 35 = .ok (.invokevirtual 38, 3) := by decide +kernel
theorem dX8_difference_38 : decode cX8_difference 38 = .ok (.ireturn, 1) := by decide +kernel
theorem dX8_move_0 : decode cX8_move 0 = .ok (.aload_n 0, 1) := by decide +kernel
theorem dX8_move_1 : decode cX8_move 1 = .ok (.iconst 0, 1) := by decide +kernel
theorem dX8_move_2 : decode cX8_move 2 = .ok (.putfield 19, 3) := by decide +kernel
theorem dX8_move_5 : decode cX8_move 5 = .ok (.iload_n 1, 1) := by decide +kernel
theorem dX8_move_6 : decode cX8_move 6 = .ok (.iconst 0, 1) := by decide +kernel
theorem dX8_move_7 : decode cX8_move 7 = .ok (.bipush 15, 2) := by decide +kernel
theorem dX8_move_9 : decode cX8_move 9 = .ok (.invokestatic 34, 3) := by decide +kernel
theorem dX8_move_12 : decode cX8_move 12 = .ok (.ifCond .eq 33, 3) := by decide +kernel
theorem dX8_move_15 : decode cX8_move 15 = .ok (.iload_n 2, 1) := by decide +kernel
theorem dX8_move_16 : decode cX8_move 16 = .ok (.iconst 0, 1) := by decide +kernel
theorem dX8_move_17 : decode cX8_move 17 = .ok (.bipush 7, 2) := by decide +kernel
theorem dX8_move_19 : decode cX8_move 19 = .ok (.invokestatic 34, 3) := by decide +kernel
theorem dX8_move_22 : decode cX8_move 22 = .ok (.ifCond .eq 23, 3) := by decide +kernel
theorem dX8_move_25 : decode cX8_move 25 = .ok (.iload_n 3, 1) := by decide +kernel
theorem dX8_move_26 : decode cX8_move 26 = .ok (.iconst 0, 1) := by decide +kernel
theorem dX8_move_27 : decode cX8_move 27 = .ok (.bipush 99, 2) := by decide +kernel
theorem dX8_move_29 : decode cX8_move 29 = .ok (.invokestatic 34, 3) := by decide +kernel
theorem dX8_move_32 : decode cX8_move 32 = .ok (.ifCond .eq 13, 3) := by decide +kernel
theorem dX8_move_35 : decode cX8_move 35 = .ok (.iload 4, 2) := by decide +kernel
theorem dX8_move_37 : decode cX8_move 37 = .ok (.iconst 0, 1) := by decide +kernel
theorem dX8_move_38 : decode cX8_move 38 = .ok (.iconst 3, 1) := by decide +kernel
theorem dX8_move_39 : decode cX8_move 39 = .ok (.invokestatic 34, 3) := by decide +kernel
theorem dX8_move_42 : decode cX8_move 42 = .ok (.ifCond .ne 9, 3) := by decide +kernel
theorem dX8_move_45 : decode cX8_move 45 = .ok (.aload_n 0, 1) := by decide +kernel
theorem dX8_move_46 : decode cX8_move 46 = .ok (.iconst 1, 1) := by decide +kernel
theorem dX8_move_47 : decode cX8_move 47 = .ok (.invokevirtual 38, 3) := by decide +kernel
theorem dX8_move_50 : decode cX8_move 50 = .ok (.ireturn, 1) := by decide +kernel
theorem dX8_move_51 : decode cX8_move 51 = .ok (.aload_n 0, 1) := by decide +kernel
theorem dX8_move_52 : decode cX8_move 52 = .ok (.getfield 10, 3) := by decide +kernel
theorem dX8_move_55 : decode cX8_move 55 = .ok (.getfield 95, 3) := by decide +kernel
theorem dX8_move_58 : decode cX8_move 58 = .ok (.bipush 12, 2) := by decide +kernel
theorem dX8_move_60 : decode cX8_move 60 = .ok (.if_icmp .ne 9, 3) := by decide +kernel
theorem dX8_move_63 : decode cX8_move 63 = .ok (.aload_n 0, 1) := by decide +kernel
theorem dX8_move_64 : decode cX8_move 64 = .ok (.iconst 2, 1) := by decide +kernel
theorem dX8_move_65 : decode cX8_move 65 = .ok (.invokevirtual 38, 3) := by decide +kernel
theorem dX8_move_68 : decode cX8_move 68 = .ok (.ireturn, 1) := by decide +kernel
theorem dX8_move_69 : decode cX8_move 69 = .ok (.bipush 6, 2) := by decide +kernel
theorem dX8_move_71 : decode cX8_move 71 = .ok (.newarray .int, 2) := by decide +kernel
theorem dX8_move_73 : decode cX8_move 73 = .ok (.dup, 1) := by decide +kernel
theorem dX8_move_74 : decode cX8_move 74 = .ok (.iconst 0, 1) := by decide +kernel
theorem dX8_move_75 : decode cX8_move 75 = .ok (.iload_n 1, 1) := by decide +kernel
theorem dX8_move_76 : decode cX8_move 76 = .ok (.iastore, 1) := by decide +kernel
theorem dX8_move_77 : decode cX8_move 77 = .ok (.dup, 1) := by decide +kernel
theorem dX8_move_78 : decode cX8_move 78 = .ok (.iconst 1, 1) := by decide +kernel
theorem dX8_move_79 : decode cX8_move 79 = .ok (.iload_n 2, 1) := by decide +kernel
theorem dX8_move_80 : decode cX8_move 80 = .ok (.iastore, 1) := by decide +kernel
theorem dX8_move_81 : decode cX8_move 81 = .ok (.dup, 1) := by decide +kernel
theorem dX8_move_82 : decode cX8_move 82 = .ok (.iconst 2, 1) := by decide +kernel
theorem dX8_move_83 : decode cX8_move 83 = .ok (.iload_n 3, 1) := by decide +kernel
theorem dX8_move_84 : decode cX8_move 84 = .ok (.iastore, 1) := by decide +kernel
theorem dX8_move_85 : decode cX8_move 85 = .ok (.dup, 1) := by decide +kernel
theorem dX8_move_86 : decode cX8_move 86 = .ok (.iconst 3, 1) := by decide +kernel
theorem dX8_move_87 : decode cX8_move 87 = .ok (.iload 4, 2) := by decide +kernel
theorem dX8_move_89 : decode cX8_move 89 = .ok (.iastore, 1) := by decide +kernel
theorem dX8_move_90 : decode cX8_move 90 = .ok (.dup, 1) := by decide +kernel
theorem dX8_move_91 : decode cX8_move 91 = .ok (.iconst 4, 1) := by decide +kernel
theorem dX8_move_92 : decode cX8_move 92 = .ok (.iconst 0, 1) := by decide +kernel
theorem dX8_move_93 : decode cX8_move 93 = .ok (.iastore, 1) := by decide +kernel
theorem dX8_move_94 : decode cX8_move 94 = .ok (.dup, 1) := by decide +kernel
theorem dX8_move_95 : decode cX8_move 95 = .ok (.iconst 5, 1) := by decide +kernel
theorem dX8_move_96 : decode cX8_move 96 = .ok (.iconst 0, 1) := by decide +kernel
theorem dX8_move_97 : decode cX8_move 97 = .ok (.iastore, 1) := by decide +kernel
theorem dX8_move_98 : decode cX8_move 98 = .ok (.astore 5, 2) := by decide +kernel
theorem dX8_move_100 : decode cX8_move 100 = .ok (.aload 5, 2) := by decide +kernel
theorem dX8_move_102 : decode cX8_move 102 = .ok (.iconst 0, 1) := by decide +kernel
theorem dX8_move_103 : decode cX8_move 103 = .ok (.aload_n 0, 1) := by decide +kernel
theorem dX8_move_104 : decode cX8_move 104 = .ok (.getfield 10, 3) := by decide +kernel
theorem dX8_move_107 : decode cX8_move 107 = .ok (.getfield 98, 3) := by decide +kernel
theorem dX8_move_110 : decode cX8_move 110 = .ok (.bipush 6, 2) := by decide +kernel
theorem dX8_move_112 : decode cX8_move 112 = .ok (.aload_n 0, 1) := by decide +kernel
theorem dX8_move_113 : decode cX8_move 113 = .ok (.getfield 10, 3) := by decide +kernel
theorem dX8_move_116 : decode cX8_move 116 = .ok (.getfield 95, 3) := by decide +kernel
theorem dX8_move_119 : decode cX8_move 119 = .ok (.imul, 1) := by decide +kernel
theorem dX8_move_120 : decode cX8_move 120 = .ok (.bipush 6, 2) := by decide +kernel
theorem dX8_move_122 : decode cX8_move 122 = .ok (.invokestatic 62, 3) := by decide +kernel
theorem dX8_move_125 : decode cX8_move 125 = .ok (.aload_n 0, 1) := by decide +kernel
theorem dX8_move_126 : decode cX8_move 126 = .ok (.getfield 10, 3) := by decide +kernel
theorem dX8_move_129 : decode cX8_move 129 = .ok (.dup, 1) := by decide +kernel
theorem dX8_move_130 : decode cX8_move 130 = .ok (.getfield 95, 3) := by decide +kernel
theorem dX8_move_133 : decode cX8_move 133 = .ok (.iconst 1, 1) := by decide +kernel
theorem dX8_move_134 : decode cX8_move 134 = .ok (.iadd, 1) := by decide +kernel
theorem dX8_move_135 : decode cX8_move 135 = .ok (.putfield 95, 3) := by decide +kernel
theorem dX8_move_138 : decode cX8_move 138 = .ok (.aload_n 0, 1) := by decide +kernel
theorem dX8_move_139 : decode cX8_move 139 = .ok (.getfield 10, 3) := by decide +kernel
theorem dX8_move_142 : decode cX8_move 142 = .ok (.getfield 95, 3) := by decide +kernel
theorem dX8_move_145 : decode cX8_move 145 = .ok (.iconst 1, 1) := by decide +kernel
theorem dX8_move_146 : decode cX8_move 146 = .ok (.isub, 1) := by decide +kernel
theorem dX8_move_147 : decode cX8_move 147 = .ok (.ireturn, 1) := by decide +kernel
theorem dX8_isMotion_0 : decode cX8_isMotion 0 = .ok (.iload_n 1, 1) := by decide +kernel
theorem dX8_isMotion_1 : decode cX8_isMotion 1 = .ok (.iconst 0, 1) := by decide +kernel
theorem dX8_isMotion_2 : decode cX8_isMotion 2 = .ok (.aload_n 0, 1) := by decide +kernel
theorem dX8_isMotion_3 : decode cX8_isMotion 3 = .ok (.getfield 10, 3) := by decide +kernel
theorem dX8_isMotion_6 : decode cX8_isMotion 6 = .ok (.getfield 95, 3) := by decide +kernel
theorem dX8_isMotion_9 : decode cX8_isMotion 9 = .ok (.iconst 1, 1) := by decide +kernel
theorem dX8_isMotion_10 : decode cX8_isMotion 10 = .ok (.isub, 1) := by decide +kernel
theorem dX8_isMotion_11 : decode cX8_isMotion 11 = .ok (.invokestatic 34, 3) := by decide +kernel
theorem dX8_isMotion_14 : decode cX8_isMotion 14 = .ok (.ireturn, 1) := by decide +kernel
theorem dX8_put_0 : decode cX8_put 0 = .ok (.aload_n 0, 1) := by decide +kernel
theorem dX8_put_1 : decode cX8_put 1 = .ok (.iconst 0, 1) := by decide +kernel
theorem dX8_put_2 : decode cX8_put 2 = .ok (.putfield 19, 3) := by decide +kernel
theorem dX8_put_5 : decode cX8_put 5 = .ok (.aload_n 0, 1) := by decide +kernel
theorem dX8_put_6 : decode cX8_put 6 = .ok (.iload_n 1, 1) := by decide +kernel
theorem dX8_put_7 : decode cX8_put 7 = .ok (.invokevirtual 101, 3) := by decide +kernel
theorem dX8_put_10 : decode cX8_put 10 = .ok (.ifCond .ne 9, 3) := by decide +kernel
theorem dX8_put_13 : decode cX8_put 13 = .ok (.aload_n 0, 1) := by decide +kernel
theorem dX8_put_14 : decode cX8_put 14 = .ok (.iconst 1, 1) := by decide +kernel
theorem dX8_put_15 : decode cX8_put 15 = .ok (.invokevirtual 38, 3) := by decide +kernel
theorem dX8_put_18 : decode cX8_put 18 = .ok (.ireturn, 1) := by decide +kernel
theorem dX8_put_19 : decode cX8_put 19 = .ok (.iload_n 2, 1) := by decide +kernel
theorem dX8_put_20 : decode cX8_put 20 = .ok (.aload_n 0, 1) := by decide +kernel
theorem dX8_put_21 : decode cX8_put 21 = .ok (.getfield 10, 3) := by decide +kernel
theorem dX8_put_24 : decode cX8_put 24 = .ok (.getfield 104, 3) := by decide +kernel
theorem dX8_put_27 : decode cX8_put 27 = .ok (.sipush 2000, 3) := by decide +kernel
theorem dX8_put_30 : decode cX8_put 30 = .ok (.invokestatic 34, 3) := by decide +kernel
theorem dX8_put_33 : decode cX8_put 33 = .ok (.ifCond .ne 9, 3) := by decide +kernel
theorem dX8_put_36 : decode cX8_put 36 = .ok (.aload_n 0, 1) := by decide +kernel
theorem dX8_put_37 : decode cX8_put 37 = .ok (.iconst 2, 1) := by decide +kernel
theorem dX8_put_38 : decode cX8_put 38 = .ok (.invokevirtual 38, 3) := by decide +kernel
theorem dX8_put_41 : decode cX8_put 41 = .ok (.ireturn, 1) := by decide +kernel
theorem dX8_put_42 : decode cX8_put 42 = .ok (.aload_n 0, 1) := by decide +kernel
theorem dX8_put_43 : decode cX8_put 43 = .ok (.getfield 10, 3) := by decide +kernel
theorem dX8_put_46 : decode cX8_put 46 = .ok (.getfield 107, 3) := by decide +kernel
theorem dX8_put_49 : decode cX8_put 49 = .ok (.bipush 20, 2) := by decide +kernel
theorem dX8_put_51 : decode cX8_put 51 = .ok (.if_icmp .ne 9, 3) := by decide +kernel
theorem dX8_put_54 : decode cX8_put 54 = .ok (.aload_n 0, 1) := by decide +kernel
theorem dX8_put_55 : decode cX8_put 55 = .ok (.iconst 3, 1) := by decide +kernel
theorem dX8_put_56 : decode cX8_put 56 = .ok (.invokevirtual 38, 3) := by decide +kernel
theorem dX8_put_59 : decode cX8_put 59 = .ok (.ireturn, 1) := by decide +kernel
theorem dX8_put_60 : decode cX8_put 60 = .ok (.aload_n 0, 1) := by decide +kernel
theorem dX8_put_61 : decode cX8_put 61 = .ok (.getfield 10, 3) := by decide +kernel
theorem dX8_put_64 : decode cX8_put 64 = .ok (.getfield 110, 3) := by decide +kernel
theorem dX8_put_67 : decode cX8_put 67 = .ok (.iconst 2, 1) := by decide +kernel
theorem dX8_put_68 : decode cX8_put 68 = .ok (.aload_n 0, 1) := by decide +kernel
theorem dX8_put_69 : decode cX8_put 69 = .ok (.getfield 10, 3) := by decide +kernel
theorem dX8_put_72 : decode cX8_put 72 = .ok (.getfield 107, 3) := by decide +kernel
theorem dX8_put_75 : decode cX8_put 75 = .ok (.imul, 1) := by decide +kernel
theorem dX8_put_76 : decode cX8_put 76 = .ok (.iload_n 1, 1) := by decide +kernel
theorem dX8_put_77 : decode cX8_put 77 = .ok (.iastore, 1) := by decide +kernel
theorem dX8_put_78 : decode cX8_put 78 = .ok (.aload_n 0, 1) := by decide +kernel
theorem dX8_put_79 : decode cX8_put 79 = .ok (.getfield 10, 3) := by decide +kernel
theorem dX8_put_82 : decode cX8_put 82 = .ok (.getfield 110, 3) := by decide +kernel
theorem dX8_put_85 : decode cX8_put 85 = .ok (.iconst 2, 1) := by decide +kernel
theorem dX8_put_86 : decode cX8_put 86 = .ok (.aload_n 0, 1) := by decide +kernel
theorem dX8_put_87 : decode cX8_put 87 = .ok (.getfield 10, 3) := by decide +kernel
theorem dX8_put_90 : decode cX8_put 90 = .ok (.getfield 107, 3) := by decide +kernel
theorem dX8_put_93 : decode cX8_put 93 = .ok (.imul, 1) := by decide +kernel
theorem dX8_put_94 : decode cX8_put 94 = .ok (.iconst 1, 1) := by decide +kernel
theorem dX8_put_95 : decode cX8_put 95 = .ok (.iadd, 1) := by decide +kernel
theorem dX8_put_96 : decode cX8_put 96 = .ok (.iload_n 2, 1) := by decide +kernel
theorem dX8_put_97 : decode cX8_put 97 = .ok (.iastore, 1) := by decide +kernel
theorem dX8_put_98 : decode cX8_put 98 = .ok (.aload_n 0, 1) := by decide +kernel
theorem dX8_put_99 : decode cX8_put 99 = .ok (.getfield 10, 3) := by decide +kernel
theorem dX8_put_102 : decode cX8_put 102 = .ok (.dup, 1) := by decide +kernel
theorem dX8_put_103 : decode cX8_put 103 = .ok (.getfield 107, 3) := by decide +kernel
theorem dX8_put_106 : decode cX8_put 106 = .ok (.iconst 1, 1) := by decide +kernel
theorem dX8_put_107 : decode cX8_put 107 = .ok (.iadd, 1) := by decide +kernel
theorem dX8_put_108 : decode cX8_put 108 = .ok (.putfield 107, 3) := by decide +kernel
theorem dX8_put_111 : decode cX8_put 111 = .ok (.aload_n 0, 1) := by decide +kernel
theorem dX8_put_112 : decode cX8_put 112 = .ok (.getfield 10, 3) := by decide +kernel
theorem dX8_put_115 : decode cX8_put 115 = .ok (.getfield 107, 3) := by decide +kernel
theorem dX8_put_118 : decode cX8_put 118 = .ok (.ireturn, 1) := by decide +kernel
theorem dX8_motionTold_0 : decode cX8_motionTold 0 = .ok (.iload_n 2, 1) := by decide +kernel
theorem dX8_motionTold_1 : decode cX8_motionTold 1 = .ok (.iconst 4, 1) := by decide +kernel
theorem dX8_motionTold_2 : decode cX8_motionTold 2 = .ok (.if_icmp .ge 18, 3) := by decide +kernel
theorem dX8_motionTold_5 : decode cX8_motionTold 5 = .ok (.aload_n 0, 1) := by decide +kernel
theorem dX8_motionTold_6 : decode cX8_motionTold 6 = .ok (.getfield 10, 3) := by decide +kernel
theorem dX8_motionTold_9 : decode cX8_motionTold 9 = .ok (.getfield 98, 3) := by decide +kernel
theorem dX8_motionTold_12 : decode cX8_motionTold 12 = .ok (.bipush 6, 2) := by decide +kernel
theorem dX8_motionTold_14 : decode cX8_motionTold 14 = .ok (.iload_n 1, 1) := by decide +kernel
theorem dX8_motionTold_15 : decode cX8_motionTold 15 = .ok (.imul, 1) := by decide +kernel
theorem dX8_motionTold_16 : decode cX8_motionTold 16 = .ok (.iload_n 2, 1) := by decide +kernel
theorem dX8_motionTold_17 : decode cX8_motionTold 17 = .ok (.iadd, 1) := by decide +kernel
theorem dX8_motionTold_18 : decode cX8_motionTold 18 = .ok (.iaload, 1) := by decide +kernel
theorem dX8_motionTold_19 : decode cX8_motionTold 19 = .ok (.ireturn, 1) := by decide +kernel
theorem dX8_motionTold_20 : decode cX8_motionTold 20 = .ok (.iload_n 2, 1) := by decide +kernel
theorem dX8_motionTold_21 : decode cX8_motionTold 21 = .ok (.bipush 6, 2) := by decide +kernel
theorem dX8_motionTold_23 : decode cX8_motionTold 23 = .ok (.if_icmp .ge 22, 3) := by decide +kernel
theorem dX8_motionTold_26 : decode cX8_motionTold 26 = .ok (.aload_n 0, 1) := by decide +kernel
theorem dX8_motionTold_27 : decode cX8_motionTold 27 = .ok (.getfield 10, 3) := by decide +kernel
theorem dX8_motionTold_30 : decode cX8_motionTold 30 = .ok (.iload_n 1, 1) := by decide +kernel
theorem dX8_motionTold_31 : decode cX8_motionTold 31 = .ok (.iload_n 2, 1) := by decide +kernel
theorem dX8_motionTold_32 : decode cX8_motionTold 32 = .ok (.iconst 4, 1) := by decide +kernel
theorem dX8_motionTold_33 : decode cX8_motionTold 33 = .ok (.if_icmp .ne 7, 3) := by decide +kernel
theorem dX8_motionTold_36 : decode cX8_motionTold 36 = .ok (.iconst 1, 1) := by decide +kernel
theorem dX8_motionTold_37 : decode cX8_motionTold 37 = .ok (.goto 4, 3) := by decide +kernel
theorem dX8_motionTold_40 : decode cX8_motionTold 40 = .ok (.iconst (-1), 1) := by decide +kernel
theorem dX8_motionTold_41 : decode cX8_motionTold 41 = .ok (.invokevirtual 113, 3) := by decide +kernel
theorem dX8_motionTold_44 : decode cX8_motionTold 44 = .ok (.ireturn, 1) := by decide +kernel
theorem dX8_motionTold_45 : decode cX8_motionTold 45 = .ok (.iload_n 2, 1) := by decide +kernel
theorem dX8_motionTold_46 : decode cX8_motionTold 46 = .ok (.bipush 6, 2) := by decide +kernel
theorem dX8_motionTold_48 : decode cX8_motionTold 48 = .ok (.if_icmp .ne 22, 3) := by decide +kernel
theorem dX8_motionTold_51 : decode cX8_motionTold 51 = .ok (.aload_n 0, 1) := by decide +kernel
theorem dX8_motionTold_52 : decode cX8_motionTold 52 = .ok (.getfield 10, 3) := by decide +kernel
theorem dX8_motionTold_55 : decode cX8_motionTold 55 = .ok (.iload_n 1, 1) := by decide +kernel
theorem dX8_motionTold_56 : decode cX8_motionTold 56 = .ok (.invokevirtual 116, 3) := by decide +kernel
theorem dX8_motionTold_59 : decode cX8_motionTold 59 = .ok (.ifCond .eq 7, 3) := by decide +kernel
theorem dX8_motionTold_62 : decode cX8_motionTold 62 = .ok (.iconst 1, 1) := by decide +kernel
theorem dX8_motionTold_63 : decode cX8_motionTold 63 = .ok (.goto 23, 3) := by decide +kernel
end
section
theorem dX8_motionTold_66 : decode cX8_motionTold 66 = .ok (.iconst 0, 1) := by decide +kernel
theorem dX8_motionTold_67 : decode cX8_motionTold 67 = .ok (.goto 19, 3) := by decide +kernel
theorem dX8_motionTold_70 : decode cX8_motionTold 70 = .ok (.aload_n 0, 1) := by decide +kernel
theorem dX8_motionTold_71 : decode cX8_motionTold 71 = .ok (.getfield 10, 3) := by decide +kernel
theorem dX8_motionTold_74 : decode cX8_motionTold 74 = .ok (.getfield 98, 3) := by decide +kernel
theorem dX8_motionTold_77 : decode cX8_motionTold 77 = .ok (.bipush 6, 2) := by decide +kernel
theorem dX8_motionTold_79 : decode cX8_motionTold 79 = .ok (.iload_n 1, 1) := by decide +kernel
theorem dX8_motionTold_80 : decode cX8_motionTold 80 = .ok (.imul, 1) := by decide +kernel
theorem dX8_motionTold_81 : decode cX8_motionTold 81 = .ok (.iload_n 2, 1) := by decide +kernel
theorem dX8_motionTold_82 : decode cX8_motionTold 82 = .ok (.iadd, 1) := by decide +kernel
theorem dX8_motionTold_83 : decode cX8_motionTold 83 = .ok (.iconst 3, 1) := by decide +kernel
theorem dX8_motionTold_84 : decode cX8_motionTold 84 = .ok (.isub, 1) := by decide +kernel
theorem dX8_motionTold_85 : decode cX8_motionTold 85 = .ok (.iaload, 1) := by decide +kernel
theorem dX8_motionTold_86 : decode cX8_motionTold 86 = .ok (.ireturn, 1) := by decide +kernel
theorem dX8_motion_0 : decode cX8_motion 0 = .ok (.aload_n 0, 1) := by decide +kernel
theorem dX8_motion_1 : decode cX8_motion 1 = .ok (.iconst 0, 1) := by decide +kernel
theorem dX8_motion_2 : decode cX8_motion 2 = .ok (.putfield 19, 3) := by decide +kernel
theorem dX8_motion_5 : decode cX8_motion 5 = .ok (.aload_n 0, 1) := by decide +kernel
theorem dX8_motion_6 : decode cX8_motion 6 = .ok (.iload_n 1, 1) := by decide +kernel
theorem dX8_motion_7 : decode cX8_motion 7 = .ok (.invokevirtual 101, 3) := by decide +kernel
theorem dX8_motion_10 : decode cX8_motion 10 = .ok (.ifCond .eq 22, 3) := by decide +kernel
theorem dX8_motion_13 : decode cX8_motion 13 = .ok (.iload_n 2, 1) := by decide +kernel
theorem dX8_motion_14 : decode cX8_motion 14 = .ok (.iconst 0, 1) := by decide +kernel
theorem dX8_motion_15 : decode cX8_motion 15 = .ok (.bipush 8, 2) := by decide +kernel
theorem dX8_motion_17 : decode cX8_motion 17 = .ok (.invokestatic 34, 3) := by decide +kernel
theorem dX8_motion_20 : decode cX8_motion 20 = .ok (.ifCond .eq 12, 3) := by decide +kernel
theorem dX8_motion_23 : decode cX8_motion 23 = .ok (.aload_n 0, 1) := by decide +kernel
theorem dX8_motion_24 : decode cX8_motion 24 = .ok (.iload_n 1, 1) := by decide +kernel
theorem dX8_motion_25 : decode cX8_motion 25 = .ok (.iload_n 2, 1) := by decide +kernel
theorem dX8_motion_26 : decode cX8_motion 26 = .ok (.invokevirtual 119, 3) := by decide +kernel
theorem dX8_motion_29 : decode cX8_motion 29 = .ok (.goto 8, 3) := by decide +kernel
theorem dX8_motion_32 : decode cX8_motion 32 = .ok (.aload_n 0, 1) := by decide +kernel
theorem dX8_motion_33 : decode cX8_motion 33 = .ok (.iconst 1, 1) := by decide +kernel
theorem dX8_motion_34 : decode cX8_motion 34 = .ok (.invokevirtual 38, 3) := by decide +kernel
theorem dX8_motion_37 : decode cX8_motion 37 = .ok (.ireturn, 1) := by decide +kernel
theorem dX8_stand_0 : decode cX8_stand 0 = .ok (.aload_n 0, 1) := by decide +kernel
theorem dX8_stand_1 : decode cX8_stand 1 = .ok (.iconst 0, 1) := by decide +kernel
theorem dX8_stand_2 : decode cX8_stand 2 = .ok (.putfield 19, 3) := by decide +kernel
theorem dX8_stand_5 : decode cX8_stand 5 = .ok (.aload_n 0, 1) := by decide +kernel
theorem dX8_stand_6 : decode cX8_stand 6 = .ok (.iload_n 1, 1) := by decide +kernel
theorem dX8_stand_7 : decode cX8_stand 7 = .ok (.invokevirtual 101, 3) := by decide +kernel
theorem dX8_stand_10 : decode cX8_stand 10 = .ok (.ifCond .eq 23, 3) := by decide +kernel
theorem dX8_stand_13 : decode cX8_stand 13 = .ok (.aload_n 0, 1) := by decide +kernel
theorem dX8_stand_14 : decode cX8_stand 14 = .ok (.iload_n 2, 1) := by decide +kernel
theorem dX8_stand_15 : decode cX8_stand 15 = .ok (.invokevirtual 68, 3) := by decide +kernel
theorem dX8_stand_18 : decode cX8_stand 18 = .ok (.ifCond .eq 15, 3) := by decide +kernel
theorem dX8_stand_21 : decode cX8_stand 21 = .ok (.aload_n 0, 1) := by decide +kernel
theorem dX8_stand_22 : decode cX8_stand 22 = .ok (.getfield 10, 3) := by decide +kernel
theorem dX8_stand_25 : decode cX8_stand 25 = .ok (.iload_n 1, 1) := by decide +kernel
theorem dX8_stand_26 : decode cX8_stand 26 = .ok (.iload_n 2, 1) := by decide +kernel
theorem dX8_stand_27 : decode cX8_stand 27 = .ok (.invokevirtual 122, 3) := by decide +kernel
theorem dX8_stand_30 : decode cX8_stand 30 = .ok (.goto 8, 3) := by decide +kernel
theorem dX8_stand_33 : decode cX8_stand 33 = .ok (.aload_n 0, 1) := by decide +kernel
theorem dX8_stand_34 : decode cX8_stand 34 = .ok (.iconst 1, 1) := by decide +kernel
theorem dX8_stand_35 : decode cX8_stand 35 = .ok (.invokevirtual 38, 3) := by decide +kernel
theorem dX8_stand_38 : decode cX8_stand 38 = .ok (.ireturn, 1) := by decide +kernel
theorem dX8_pass_0 : decode cX8_pass 0 = .ok (.aload_n 0, 1) := by decide +kernel
theorem dX8_pass_1 : decode cX8_pass 1 = .ok (.iconst 0, 1) := by decide +kernel
theorem dX8_pass_2 : decode cX8_pass 2 = .ok (.putfield 19, 3) := by decide +kernel
theorem dX8_pass_5 : decode cX8_pass 5 = .ok (.iload_n 1, 1) := by decide +kernel
theorem dX8_pass_6 : decode cX8_pass 6 = .ok (.iconst 1, 1) := by decide +kernel
theorem dX8_pass_7 : decode cX8_pass 7 = .ok (.bipush 100, 2) := by decide +kernel
theorem dX8_pass_9 : decode cX8_pass 9 = .ok (.invokestatic 34, 3) := by decide +kernel
theorem dX8_pass_12 : decode cX8_pass 12 = .ok (.ifCond .ne 9, 3) := by decide +kernel
theorem dX8_pass_15 : decode cX8_pass 15 = .ok (.aload_n 0, 1) := by decide +kernel
theorem dX8_pass_16 : decode cX8_pass 16 = .ok (.iconst 1, 1) := by decide +kernel
theorem dX8_pass_17 : decode cX8_pass 17 = .ok (.invokevirtual 38, 3) := by decide +kernel
theorem dX8_pass_20 : decode cX8_pass 20 = .ok (.ireturn, 1) := by decide +kernel
theorem dX8_pass_21 : decode cX8_pass 21 = .ok (.aload_n 0, 1) := by decide +kernel
theorem dX8_pass_22 : decode cX8_pass 22 = .ok (.getfield 10, 3) := by decide +kernel
theorem dX8_pass_25 : decode cX8_pass 25 = .ok (.getfield 104, 3) := by decide +kernel
theorem dX8_pass_28 : decode cX8_pass 28 = .ok (.iload_n 1, 1) := by decide +kernel
theorem dX8_pass_29 : decode cX8_pass 29 = .ok (.iadd, 1) := by decide +kernel
theorem dX8_pass_30 : decode cX8_pass 30 = .ok (.sipush 2000, 3) := by decide +kernel
theorem dX8_pass_33 : decode cX8_pass 33 = .ok (.if_icmp .le 9, 3) := by decide +kernel
theorem dX8_pass_36 : decode cX8_pass 36 = .ok (.aload_n 0, 1) := by decide +kernel
theorem dX8_pass_37 : decode cX8_pass 37 = .ok (.iconst 2, 1) := by decide +kernel
theorem dX8_pass_38 : decode cX8_pass 38 = .ok (.invokevirtual 38, 3) := by decide +kernel
theorem dX8_pass_41 : decode cX8_pass 41 = .ok (.ireturn, 1) := by decide +kernel
theorem dX8_pass_42 : decode cX8_pass 42 = .ok (.iconst 0, 1) := by decide +kernel
theorem dX8_pass_43 : decode cX8_pass 43 = .ok (.istore_n 2, 1) := by decide +kernel
theorem dX8_pass_44 : decode cX8_pass 44 = .ok (.iconst 0, 1) := by decide +kernel
theorem dX8_pass_45 : decode cX8_pass 45 = .ok (.istore_n 3, 1) := by decide +kernel
theorem dX8_pass_46 : decode cX8_pass 46 = .ok (.iload_n 3, 1) := by decide +kernel
theorem dX8_pass_47 : decode cX8_pass 47 = .ok (.iload_n 1, 1) := by decide +kernel
theorem dX8_pass_48 : decode cX8_pass 48 = .ok (.if_icmp .ge 19, 3) := by decide +kernel
theorem dX8_pass_51 : decode cX8_pass 51 = .ok (.iload_n 2, 1) := by decide +kernel
theorem dX8_pass_52 : decode cX8_pass 52 = .ok (.aload_n 0, 1) := by decide +kernel
theorem dX8_pass_53 : decode cX8_pass 53 = .ok (.getfield 10, 3) := by decide +kernel
theorem dX8_pass_56 : decode cX8_pass 56 = .ok (.invokevirtual 125, 3) := by decide +kernel
theorem dX8_pass_59 : decode cX8_pass 59 = .ok (.iadd, 1) := by decide +kernel
theorem dX8_pass_60 : decode cX8_pass 60 = .ok (.istore_n 2, 1) := by decide +kernel
theorem dX8_pass_61 : decode cX8_pass 61 = .ok (.iinc 3 1, 3) := by decide +kernel
theorem dX8_pass_64 : decode cX8_pass 64 = .ok (.goto (-18), 3) := by decide +kernel
theorem dX8_pass_67 : decode cX8_pass 67 = .ok (.iload_n 2, 1) := by decide +kernel
theorem dX8_pass_68 : decode cX8_pass 68 = .ok (.ireturn, 1) := by decide +kernel
theorem dX8_counted_0 : decode cX8_counted 0 = .ok (.iconst 0, 1) := by decide +kernel
theorem dX8_counted_1 : decode cX8_counted 1 = .ok (.istore_n 2, 1) := by decide +kernel
theorem dX8_counted_2 : decode cX8_counted 2 = .ok (.iconst 0, 1) := by decide +kernel
theorem dX8_counted_3 : decode cX8_counted 3 = .ok (.istore_n 3, 1) := by decide +kernel
theorem dX8_counted_4 : decode cX8_counted 4 = .ok (.iconst 0, 1) := by decide +kernel
theorem dX8_counted_5 : decode cX8_counted 5 = .ok (.istore 4, 2) := by decide +kernel
theorem dX8_counted_7 : decode cX8_counted 7 = .ok (.iconst 0, 1) := by decide +kernel
theorem dX8_counted_8 : decode cX8_counted 8 = .ok (.istore 5, 2) := by decide +kernel
theorem dX8_counted_10 : decode cX8_counted 10 = .ok (.iload 5, 2) := by decide +kernel
theorem dX8_counted_12 : decode cX8_counted 12 = .ok (.aload_n 0, 1) := by decide +kernel
theorem dX8_counted_13 : decode cX8_counted 13 = .ok (.getfield 10, 3) := by decide +kernel
theorem dX8_counted_16 : decode cX8_counted 16 = .ok (.getfield 53, 3) := by decide +kernel
theorem dX8_counted_19 : decode cX8_counted 19 = .ok (.if_icmp .ge 90, 3) := by decide +kernel
theorem dX8_counted_22 : decode cX8_counted 22 = .ok (.iload_n 2, 1) := by decide +kernel
theorem dX8_counted_23 : decode cX8_counted 23 = .ok (.aload_n 0, 1) := by decide +kernel
theorem dX8_counted_24 : decode cX8_counted 24 = .ok (.getfield 10, 3) := by decide +kernel
theorem dX8_counted_27 : decode cX8_counted 27 = .ok (.iload 5, 2) := by decide +kernel
theorem dX8_counted_29 : decode cX8_counted 29 = .ok (.iconst 4, 1) := by decide +kernel
theorem dX8_counted_30 : decode cX8_counted 30 = .ok (.invokevirtual 56, 3) := by decide +kernel
theorem dX8_counted_33 : decode cX8_counted 33 = .ok (.iadd, 1) := by decide +kernel
theorem dX8_counted_34 : decode cX8_counted 34 = .ok (.istore_n 2, 1) := by decide +kernel
theorem dX8_counted_35 : decode cX8_counted 35 = .ok (.iload_n 3, 1) := by decide +kernel
theorem dX8_counted_36 : decode cX8_counted 36 = .ok (.aload_n 0, 1) := by decide +kernel
theorem dX8_counted_37 : decode cX8_counted 37 = .ok (.getfield 10, 3) := by decide +kernel
theorem dX8_counted_40 : decode cX8_counted 40 = .ok (.iload 5, 2) := by decide +kernel
theorem dX8_counted_42 : decode cX8_counted 42 = .ok (.bipush 8, 2) := by decide +kernel
theorem dX8_counted_44 : decode cX8_counted 44 = .ok (.invokevirtual 56, 3) := by decide +kernel
theorem dX8_counted_47 : decode cX8_counted 47 = .ok (.ifCond .le 7, 3) := by decide +kernel
theorem dX8_counted_50 : decode cX8_counted 50 = .ok (.iconst 1, 1) := by decide +kernel
theorem dX8_counted_51 : decode cX8_counted 51 = .ok (.goto 4, 3) := by decide +kernel
theorem dX8_counted_54 : decode cX8_counted 54 = .ok (.iconst 0, 1) := by decide +kernel
theorem dX8_counted_55 : decode cX8_counted 55 = .ok (.iadd, 1) := by decide +kernel
theorem dX8_counted_56 : decode cX8_counted 56 = .ok (.istore_n 3, 1) := by decide +kernel
theorem dX8_counted_57 : decode cX8_counted 57 = .ok (.iload 4, 2) := by decide +kernel
theorem dX8_counted_59 : decode cX8_counted 59 = .ok (.aload_n 0, 1) := by decide +kernel
theorem dX8_counted_60 : decode cX8_counted 60 = .ok (.getfield 10, 3) := by decide +kernel
theorem dX8_counted_63 : decode cX8_counted 63 = .ok (.iload 5, 2) := by decide +kernel
theorem dX8_counted_65 : decode cX8_counted 65 = .ok (.bipush 8, 2) := by decide +kernel
theorem dX8_counted_67 : decode cX8_counted 67 = .ok (.invokevirtual 56, 3) := by decide +kernel
theorem dX8_counted_70 : decode cX8_counted 70 = .ok (.ifCond .ne 29, 3) := by decide +kernel
theorem dX8_counted_73 : decode cX8_counted 73 = .ok (.aload_n 0, 1) := by decide +kernel
theorem dX8_counted_74 : decode cX8_counted 74 = .ok (.getfield 10, 3) := by decide +kernel
theorem dX8_counted_77 : decode cX8_counted 77 = .ok (.iload 5, 2) := by decide +kernel
theorem dX8_counted_79 : decode cX8_counted 79 = .ok (.invokevirtual 83, 3) := by decide +kernel
theorem dX8_counted_82 : decode cX8_counted 82 = .ok (.aload_n 0, 1) := by decide +kernel
theorem dX8_counted_83 : decode cX8_counted 83 = .ok (.getfield 10, 3) := by decide +kernel
theorem dX8_counted_86 : decode cX8_counted 86 = .ok (.iload 5, 2) := by decide +kernel
theorem dX8_counted_88 : decode cX8_counted 88 = .ok (.iconst 5, 1) := by decide +kernel
theorem dX8_counted_89 : decode cX8_counted 89 = .ok (.invokevirtual 56, 3) := by decide +kernel
theorem dX8_counted_92 : decode cX8_counted 92 = .ok (.if_icmp .gt 7, 3) := by decide +kernel
theorem dX8_counted_95 : decode cX8_counted 95 = .ok (.iconst 1, 1) := by decide +kernel
theorem dX8_counted_96 : decode cX8_counted 96 = .ok (.goto 4, 3) := by decide +kernel
theorem dX8_counted_99 : decode cX8_counted 99 = .ok (.iconst 0, 1) := by decide +kernel
theorem dX8_counted_100 : decode cX8_counted 100 = .ok (.iadd, 1) := by decide +kernel
theorem dX8_counted_101 : decode cX8_counted 101 = .ok (.istore 4, 2) := by decide +kernel
theorem dX8_counted_103 : decode cX8_counted 103 = .ok (.iinc 5 1, 3) := by decide +kernel
theorem dX8_counted_106 : decode cX8_counted 106 = .ok (.goto (-96), 3) := by decide +kernel
theorem dX8_counted_109 : decode cX8_counted 109 = .ok (.bipush 9, 2) := by decide +kernel
theorem dX8_counted_111 : decode cX8_counted 111 = .ok (.newarray .int, 2) := by decide +kernel
theorem dX8_counted_113 : decode cX8_counted 113 = .ok (.dup, 1) := by decide +kernel
theorem dX8_counted_114 : decode cX8_counted 114 = .ok (.iconst 0, 1) := by decide +kernel
theorem dX8_counted_115 : decode cX8_counted 115 = .ok (.aload_n 0, 1) := by decide +kernel
theorem dX8_counted_116 : decode cX8_counted 116 = .ok (.getfield 10, 3) := by decide +kernel
theorem dX8_counted_119 : decode cX8_counted 119 = .ok (.getfield 104, 3) := by decide +kernel
theorem dX8_counted_122 : decode cX8_counted 122 = .ok (.iastore, 1) := by decide +kernel
theorem dX8_counted_123 : decode cX8_counted 123 = .ok (.dup, 1) := by decide +kernel
theorem dX8_counted_124 : decode cX8_counted 124 = .ok (.iconst 1, 1) := by decide +kernel
theorem dX8_counted_125 : decode cX8_counted 125 = .ok (.aload_n 0, 1) := by decide +kernel
theorem dX8_counted_126 : decode cX8_counted 126 = .ok (.getfield 10, 3) := by decide +kernel
theorem dX8_counted_129 : decode cX8_counted 129 = .ok (.getfield 53, 3) := by decide +kernel
theorem dX8_counted_132 : decode cX8_counted 132 = .ok (.iastore, 1) := by decide +kernel
theorem dX8_counted_133 : decode cX8_counted 133 = .ok (.dup, 1) := by decide +kernel
theorem dX8_counted_134 : decode cX8_counted 134 = .ok (.iconst 2, 1) := by decide +kernel
theorem dX8_counted_135 : decode cX8_counted 135 = .ok (.aload_n 0, 1) := by decide +kernel
theorem dX8_counted_136 : decode cX8_counted 136 = .ok (.getfield 10, 3) := by decide +kernel
theorem dX8_counted_139 : decode cX8_counted 139 = .ok (.getfield 95, 3) := by decide +kernel
theorem dX8_counted_142 : decode cX8_counted 142 = .ok (.iastore, 1) := by decide +kernel
theorem dX8_counted_143 : decode cX8_counted 143 = .ok (.dup, 1) := by decide +kernel
theorem dX8_counted_144 : decode cX8_counted 144 = .ok (.iconst 3, 1) := by decide +kernel
theorem dX8_counted_145 : decode cX8_counted 145 = .ok (.aload_n 0, 1) := by decide +kernel
theorem dX8_counted_146 : decode cX8_counted 146 = .ok (.getfield 10, 3) := by decide +kernel
theorem dX8_counted_149 : decode cX8_counted 149 = .ok (.getfield 42, 3) := by decide +kernel
theorem dX8_counted_152 : decode cX8_counted 152 = .ok (.iastore, 1) := by decide +kernel
theorem dX8_counted_153 : decode cX8_counted 153 = .ok (.dup, 1) := by decide +kernel
theorem dX8_counted_154 : decode cX8_counted 154 = .ok (.iconst 4, 1) := by decide +kernel
theorem dX8_counted_155 : decode cX8_counted 155 = .ok (.aload_n 0, 1) := by decide +kernel
theorem dX8_counted_156 : decode cX8_counted 156 = .ok (.getfield 10, 3) := by decide +kernel
theorem dX8_counted_159 : decode cX8_counted 159 = .ok (.getfield 107, 3) := by decide +kernel
theorem dX8_counted_162 : decode cX8_counted 162 = .ok (.iastore, 1) := by decide +kernel
theorem dX8_counted_163 : decode cX8_counted 163 = .ok (.dup, 1) := by decide +kernel
theorem dX8_counted_164 : decode cX8_counted 164 = .ok (.iconst 5, 1) := by decide +kernel
theorem dX8_counted_165 : decode cX8_counted 165 = .ok (.iload_n 2, 1) := by decide +kernel
theorem dX8_counted_166 : decode cX8_counted 166 = .ok (.iastore, 1) := by decide +kernel
theorem dX8_counted_167 : decode cX8_counted 167 = .ok (.dup, 1) := by decide +kernel
theorem dX8_counted_168 : decode cX8_counted 168 = .ok (.bipush 6, 2) := by decide +kernel
theorem dX8_counted_170 : decode cX8_counted 170 = .ok (.aload_n 0, 1) := by decide +kernel
theorem dX8_counted_171 : decode cX8_counted 171 = .ok (.getfield 10, 3) := by decide +kernel
theorem dX8_counted_174 : decode cX8_counted 174 = .ok (.getfield 129, 3) := by decide +kernel
theorem dX8_counted_177 : decode cX8_counted 177 = .ok (.iastore, 1) := by decide +kernel
theorem dX8_counted_178 : decode cX8_counted 178 = .ok (.dup, 1) := by decide +kernel
theorem dX8_counted_179 : decode cX8_counted 179 = .ok (.bipush 7, 2) := by decide +kernel
theorem dX8_counted_181 : decode cX8_counted 181 = .ok (.iload_n 3, 1) := by decide +kernel
theorem dX8_counted_182 : decode cX8_counted 182 = .ok (.iastore, 1) := by decide +kernel
theorem dX8_counted_183 : decode cX8_counted 183 = .ok (.dup, 1) := by decide +kernel
theorem dX8_counted_184 : decode cX8_counted 184 = .ok (.bipush 8, 2) := by decide +kernel
theorem dX8_counted_186 : decode cX8_counted 186 = .ok (.iload 4, 2) := by decide +kernel
theorem dX8_counted_188 : decode cX8_counted 188 = .ok (.iastore, 1) := by decide +kernel
theorem dX8_counted_189 : decode cX8_counted 189 = .ok (.astore 5, 2) := by decide +kernel
theorem dX8_counted_191 : decode cX8_counted 191 = .ok (.aload 5, 2) := by decide +kernel
theorem dX8_counted_193 : decode cX8_counted 193 = .ok (.iload_n 1, 1) := by decide +kernel
theorem dX8_counted_194 : decode cX8_counted 194 = .ok (.iaload, 1) := by decide +kernel
theorem dX8_counted_195 : decode cX8_counted 195 = .ok (.ireturn, 1) := by decide +kernel
theorem dX8_count_0 : decode cX8_count 0 = .ok (.aload_n 0, 1) := by decide +kernel
theorem dX8_count_1 : decode cX8_count 1 = .ok (.iconst 0, 1) := by decide +kernel
theorem dX8_count_2 : decode cX8_count 2 = .ok (.putfield 19, 3) := by decide +kernel
theorem dX8_count_5 : decode cX8_count 5 = .ok (.iload_n 1, 1) := by decide +kernel
theorem dX8_count_6 : decode cX8_count 6 = .ok (.iconst 0, 1) := by decide +kernel
theorem dX8_count_7 : decode cX8_count 7 = .ok (.bipush 8, 2) := by decide +kernel
theorem dX8_count_9 : decode cX8_count 9 = .ok (.invokestatic 34, 3) := by decide +kernel
theorem dX8_count_12 : decode cX8_count 12 = .ok (.ifCond .eq 11, 3) := by decide +kernel
theorem dX8_count_15 : decode cX8_count 15 = .ok (.aload_n 0, 1) := by decide +kernel
theorem dX8_count_16 : decode cX8_count 16 = .ok (.iload_n 1, 1) := by decide +kernel
theorem dX8_count_17 : decode cX8_count 17 = .ok (.invokevirtual 132, 3) := by decide +kernel
theorem dX8_count_20 : decode cX8_count 20 = .ok (.goto 8, 3) := by decide +kernel
theorem dX8_count_23 : decode cX8_count 23 = .ok (.aload_n 0, 1) := by decide +kernel
theorem dX8_count_24 : decode cX8_count 24 = .ok (.iconst 1, 1) := by decide +kernel
theorem dX8_count_25 : decode cX8_count 25 = .ok (.invokevirtual 38, 3) := by decide +kernel
theorem dX8_count_28 : decode cX8_count 28 = .ok (.ireturn, 1) := by decide +kernel
theorem dX8_partyTold_0 : decode cX8_partyTold 0 = .ok (.iconst 0, 1) := by decide +kernel
theorem dX8_partyTold_1 : decode cX8_partyTold 1 = .ok (.istore_n 3, 1) := by decide +kernel
theorem dX8_partyTold_2 : decode cX8_partyTold 2 = .ok (.iconst 0, 1) := by decide +kernel
theorem dX8_partyTold_3 : decode cX8_partyTold 3 = .ok (.istore 4, 2) := by decide +kernel
theorem dX8_partyTold_5 : decode cX8_partyTold 5 = .ok (.iload 4, 2) := by decide +kernel
theorem dX8_partyTold_7 : decode cX8_partyTold 7 = .ok (.aload_n 0, 1) := by decide +kernel
theorem dX8_partyTold_8 : decode cX8_partyTold 8 = .ok (.getfield 10, 3) := by decide +kernel
theorem dX8_partyTold_11 : decode cX8_partyTold 11 = .ok (.getfield 53, 3) := by decide +kernel
theorem dX8_partyTold_14 : decode cX8_partyTold 14 = .ok (.if_icmp .ge 44, 3) := by decide +kernel
theorem dX8_partyTold_17 : decode cX8_partyTold 17 = .ok (.iload_n 3, 1) := by decide +kernel
theorem dX8_partyTold_18 : decode cX8_partyTold 18 = .ok (.aload_n 0, 1) := by decide +kernel
theorem dX8_partyTold_19 : decode cX8_partyTold 19 = .ok (.iload 4, 2) := by decide +kernel
theorem dX8_partyTold_21 : decode cX8_partyTold 21 = .ok (.invokevirtual 80, 3) := by decide +kernel
theorem dX8_partyTold_24 : decode cX8_partyTold 24 = .ok (.iload_n 1, 1) := by decide +kernel
theorem dX8_partyTold_25 : decode cX8_partyTold 25 = .ok (.if_icmp .ne 24, 3) := by decide +kernel
theorem dX8_partyTold_28 : decode cX8_partyTold 28 = .ok (.iload_n 2, 1) := by decide +kernel
theorem dX8_partyTold_29 : decode cX8_partyTold 29 = .ok (.ifCond .ne 7, 3) := by decide +kernel
theorem dX8_partyTold_32 : decode cX8_partyTold 32 = .ok (.iconst 1, 1) := by decide +kernel
theorem dX8_partyTold_33 : decode cX8_partyTold 33 = .ok (.goto 17, 3) := by decide +kernel
theorem dX8_partyTold_36 : decode cX8_partyTold 36 = .ok (.aload_n 0, 1) := by decide +kernel
theorem dX8_partyTold_37 : decode cX8_partyTold 37 = .ok (.getfield 10, 3) := by decide +kernel
theorem dX8_partyTold_40 : decode cX8_partyTold 40 = .ok (.iload 4, 2) := by decide +kernel
theorem dX8_partyTold_42 : decode cX8_partyTold 42 = .ok (.iconst 4, 1) := by decide +kernel
theorem dX8_partyTold_43 : decode cX8_partyTold 43 = .ok (.invokevirtual 56, 3) := by decide +kernel
theorem dX8_partyTold_46 : decode cX8_partyTold 46 = .ok (.goto 4, 3) := by decide +kernel
theorem dX8_partyTold_49 : decode cX8_partyTold 49 = .ok (.iconst 0, 1) := by decide +kernel
theorem dX8_partyTold_50 : decode cX8_partyTold 50 = .ok (.iadd, 1) := by decide +kernel
theorem dX8_partyTold_51 : decode cX8_partyTold 51 = .ok (.istore_n 3, 1) := by decide +kernel
theorem dX8_partyTold_52 : decode cX8_partyTold 52 = .ok (.iinc 4 1, 3) := by decide +kernel
theorem dX8_partyTold_55 : decode cX8_partyTold 55 = .ok (.goto (-50), 3) := by decide +kernel
theorem dX8_partyTold_58 : decode cX8_partyTold 58 = .ok (.iload_n 3, 1) := by decide +kernel
theorem dX8_partyTold_59 : decode cX8_partyTold 59 = .ok (.ireturn, 1) := by decide +kernel
theorem dX8_party_0 : decode cX8_party 0 = .ok (.aload_n 0, 1) := by decide +kernel
theorem dX8_party_1 : decode cX8_party 1 = .ok (.iconst 0, 1) := by decide +kernel
theorem dX8_party_2 : decode cX8_party 2 = .ok (.putfield 19, 3) := by decide +kernel
theorem dX8_party_5 : decode cX8_party 5 = .ok (.iload_n 1, 1) := by decide +kernel
theorem dX8_party_6 : decode cX8_party 6 = .ok (.iconst 0, 1) := by decide +kernel
theorem dX8_party_7 : decode cX8_party 7 = .ok (.iconst 3, 1) := by decide +kernel
theorem dX8_party_8 : decode cX8_party 8 = .ok (.invokestatic 34, 3) := by decide +kernel
theorem dX8_party_11 : decode cX8_party 11 = .ok (.ifCond .eq 21, 3) := by decide +kernel
theorem dX8_party_14 : decode cX8_party 14 = .ok (.iload_n 2, 1) := by decide +kernel
theorem dX8_party_15 : decode cX8_party 15 = .ok (.iconst 0, 1) := by decide +kernel
theorem dX8_party_16 : decode cX8_party 16 = .ok (.iconst 1, 1) := by decide +kernel
theorem dX8_party_17 : decode cX8_party 17 = .ok (.invokestatic 34, 3) := by decide +kernel
theorem dX8_party_20 : decode cX8_party 20 = .ok (.ifCond .eq 12, 3) := by decide +kernel
theorem dX8_party_23 : decode cX8_party 23 = .ok (.aload_n 0, 1) := by decide +kernel
theorem dX8_party_24 : decode cX8_party 24 = .ok (.iload_n 1, 1) := by decide +kernel
theorem dX8_party_25 : decode cX8_party 25 = .ok (.iload_n 2, 1) := by decide +kernel
theorem dX8_party_26 : decode cX8_party 26 = .ok (.invokevirtual 135, 3) := by decide +kernel
theorem dX8_party_29 : decode cX8_party 29 = .ok (.goto 8, 3) := by decide +kernel
theorem dX8_party_32 : decode cX8_party 32 = .ok (.aload_n 0, 1) := by decide +kernel
theorem dX8_party_33 : decode cX8_party 33 = .ok (.iconst 1, 1) := by decide +kernel
theorem dX8_party_34 : decode cX8_party 34 = .ok (.invokevirtual 38, 3) := by decide +kernel
theorem dX8_party_37 : decode cX8_party 37 = .ok (.ireturn, 1) := by decide +kernel
theorem dX8_coalition_0 : decode cX8_coalition 0 = .ok (.aload_n 0, 1) := by decide +kernel
theorem dX8_coalition_1 : decode cX8_coalition 1 = .ok (.iconst 0, 1) := by decide +kernel
theorem dX8_coalition_2 : decode cX8_coalition 2 = .ok (.putfield 19, 3) := by decide +kernel
theorem dX8_coalition_5 : decode cX8_coalition 5 = .ok (.aload_n 0, 1) := by decide +kernel
theorem dX8_coalition_6 : decode cX8_coalition 6 = .ok (.iconst 5, 1) := by decide +kernel
theorem dX8_coalition_7 : decode cX8_coalition 7 = .ok (.invokevirtual 132, 3) := by decide +kernel
theorem dX8_coalition_10 : decode cX8_coalition 10 = .ok (.istore_n 1, 1) := by decide +kernel
theorem dX8_coalition_11 : decode cX8_coalition 11 = .ok (.iconst 0, 1) := by decide +kernel
theorem dX8_coalition_12 : decode cX8_coalition 12 = .ok (.istore_n 2, 1) := by decide +kernel
theorem dX8_coalition_13 : decode cX8_coalition 13 = .ok (.iconst 0, 1) := by decide +kernel
theorem dX8_coalition_14 : decode cX8_coalition 14 = .ok (.istore_n 3, 1) := by decide +kernel
theorem dX8_coalition_15 : decode cX8_coalition 15 = .ok (.iconst 1, 1) := by decide +kernel
theorem dX8_coalition_16 : decode cX8_coalition 16 = .ok (.istore 4, 2) := by decide +kernel
theorem dX8_coalition_18 : decode cX8_coalition 18 = .ok (.iload 4, 2) := by decide +kernel
theorem dX8_coalition_20 : decode cX8_coalition 20 = .ok (.bipush 16, 2) := by decide +kernel
theorem dX8_coalition_22 : decode cX8_coalition 22 = .ok (.if_icmp .ge 110, 3) := by decide +kernel
theorem dX8_coalition_25 : decode cX8_coalition 25 = .ok (.iload_n 1, 1) := by decide +kernel
theorem dX8_coalition_26 : decode cX8_coalition 26 = .ok (.ifCond .le 106, 3) := by decide +kernel
theorem dX8_coalition_29 : decode cX8_coalition 29 = .ok (.iconst 0, 1) := by decide +kernel
theorem dX8_coalition_30 : decode cX8_coalition 30 = .ok (.istore 5, 2) := by decide +kernel
theorem dX8_coalition_32 : decode cX8_coalition 32 = .ok (.iconst 0, 1) := by decide +kernel
theorem dX8_coalition_33 : decode cX8_coalition 33 = .ok (.istore 6, 2) := by decide +kernel
theorem dX8_coalition_35 : decode cX8_coalition 35 = .ok (.iload 6, 2) := by decide +kernel
theorem dX8_coalition_37 : decode cX8_coalition 37 = .ok (.iconst 4, 1) := by decide +kernel
theorem dX8_coalition_38 : decode cX8_coalition 38 = .ok (.if_icmp .ge 36, 3) := by decide +kernel
theorem dX8_coalition_41 : decode cX8_coalition 41 = .ok (.iload 5, 2) := by decide +kernel
theorem dX8_coalition_43 : decode cX8_coalition 43 = .ok (.iload 4, 2) := by decide +kernel
theorem dX8_coalition_45 : decode cX8_coalition 45 = .ok (.iload 6, 2) := by decide +kernel
theorem dX8_coalition_47 : decode cX8_coalition 47 = .ok (.ishr, 1) := by decide +kernel
theorem dX8_coalition_48 : decode cX8_coalition 48 = .ok (.iconst 1, 1) := by decide +kernel
theorem dX8_coalition_49 : decode cX8_coalition 49 = .ok (.iand, 1) := by decide +kernel
theorem dX8_coalition_50 : decode cX8_coalition 50 = .ok (.iconst 1, 1) := by decide +kernel
theorem dX8_coalition_51 : decode cX8_coalition 51 = .ok (.if_icmp .ne 13, 3) := by decide +kernel
theorem dX8_coalition_54 : decode cX8_coalition 54 = .ok (.aload_n 0, 1) := by decide +kernel
theorem dX8_coalition_55 : decode cX8_coalition 55 = .ok (.iload 6, 2) := by decide +kernel
theorem dX8_coalition_57 : decode cX8_coalition 57 = .ok (.iconst 1, 1) := by decide +kernel
theorem dX8_coalition_58 : decode cX8_coalition 58 = .ok (.invokevirtual 135, 3) := by decide +kernel
theorem dX8_coalition_61 : decode cX8_coalition 61 = .ok (.goto 4, 3) := by decide +kernel
theorem dX8_coalition_64 : decode cX8_coalition 64 = .ok (.iconst 0, 1) := by decide +kernel
theorem dX8_coalition_65 : decode cX8_coalition 65 = .ok (.iadd, 1) := by decide +kernel
theorem dX8_coalition_66 : decode cX8_coalition 66 = .ok (.istore 5, 2) := by decide +kernel
theorem dX8_coalition_68 : decode cX8_coalition 68 = .ok (.iinc 6 1, 3) := by decide +kernel
theorem dX8_coalition_71 : decode cX8_coalition 71 = .ok (.goto (-36), 3) := by decide +kernel
theorem dX8_coalition_74 : decode cX8_coalition 74 = .ok (.iconst 2, 1) := by decide +kernel
theorem dX8_coalition_75 : decode cX8_coalition 75 = .ok (.iload 5, 2) := by decide +kernel
theorem dX8_coalition_77 : decode cX8_coalition 77 = .ok (.imul, 1) := by decide +kernel
theorem dX8_coalition_78 : decode cX8_coalition 78 = .ok (.iload_n 1, 1) := by decide +kernel
theorem dX8_coalition_79 : decode cX8_coalition 79 = .ok (.if_icmp .gt 6, 3) := by decide +kernel
theorem dX8_coalition_82 : decode cX8_coalition 82 = .ok (.goto 44, 3) := by decide +kernel
theorem dX8_coalition_85 : decode cX8_coalition 85 = .ok (.iload_n 2, 1) := by decide +kernel
theorem dX8_coalition_86 : decode cX8_coalition 86 = .ok (.invokestatic 138, 3) := by decide +kernel
theorem dX8_coalition_89 : decode cX8_coalition 89 = .ok (.iload 4, 2) := by decide +kernel
theorem dX8_coalition_91 : decode cX8_coalition 91 = .ok (.invokestatic 138, 3) := by decide +kernel
theorem dX8_coalition_94 : decode cX8_coalition 94 = .ok (.isub, 1) := by decide +kernel
theorem dX8_coalition_95 : decode cX8_coalition 95 = .ok (.istore 6, 2) := by decide +kernel
theorem dX8_coalition_97 : decode cX8_coalition 97 = .ok (.iload_n 2, 1) := by decide +kernel
theorem dX8_coalition_98 : decode cX8_coalition 98 = .ok (.ifCond .eq 22, 3) := by decide +kernel
theorem dX8_coalition_101 : decode cX8_coalition 101 = .ok (.iload 6, 2) := by decide +kernel
theorem dX8_coalition_103 : decode cX8_coalition 103 = .ok (.ifCond .lt 23, 3) := by decide +kernel
theorem dX8_coalition_106 : decode cX8_coalition 106 = .ok (.iload 6, 2) := by decide +kernel
theorem dX8_coalition_108 : decode cX8_coalition 108 = .ok (.ifCond .ne 12, 3) := by decide +kernel
theorem dX8_coalition_111 : decode cX8_coalition 111 = .ok (.iload 5, 2) := by decide +kernel
theorem dX8_coalition_113 : decode cX8_coalition 113 = .ok (.iload_n 3, 1) := by decide +kernel
theorem dX8_coalition_114 : decode cX8_coalition 114 = .ok (.if_icmp .gt 6, 3) := by decide +kernel
theorem dX8_coalition_117 : decode cX8_coalition 117 = .ok (.goto 9, 3) := by decide +kernel
theorem dX8_coalition_120 : decode cX8_coalition 120 = .ok (.iload 4, 2) := by decide +kernel
theorem dX8_coalition_122 : decode cX8_coalition 122 = .ok (.istore_n 2, 1) := by decide +kernel
theorem dX8_coalition_123 : decode cX8_coalition 123 = .ok (.iload 5, 2) := by decide +kernel
theorem dX8_coalition_125 : decode cX8_coalition 125 = .ok (.istore_n 3, 1) := by decide +kernel
theorem dX8_coalition_126 : decode cX8_coalition 126 = .ok (.iinc 4 1, 3) := by decide +kernel
theorem dX8_coalition_129 : decode cX8_coalition 129 = .ok (.goto (-111), 3) := by decide +kernel
theorem dX8_coalition_132 : decode cX8_coalition 132 = .ok (.iload_n 2, 1) := by decide +kernel
theorem dX8_coalition_133 : decode cX8_coalition 133 = .ok (.ireturn, 1) := by decide +kernel
theorem dX8_foresee_0 : decode cX8_foresee 0 = .ok (.aload_n 0, 1) := by decide +kernel
theorem dX8_foresee_1 : decode cX8_foresee 1 = .ok (.iconst 0, 1) := by decide +kernel
theorem dX8_foresee_2 : decode cX8_foresee 2 = .ok (.putfield 19, 3) := by decide +kernel
theorem dX8_foresee_5 : decode cX8_foresee 5 = .ok (.aload_n 0, 1) := by decide +kernel
theorem dX8_foresee_6 : decode cX8_foresee 6 = .ok (.iload_n 1, 1) := by decide +kernel
theorem dX8_foresee_7 : decode cX8_foresee 7 = .ok (.invokevirtual 68, 3) := by decide +kernel
theorem dX8_foresee_10 : decode cX8_foresee 10 = .ok (.ifCond .ne 9, 3) := by decide +kernel
theorem dX8_foresee_13 : decode cX8_foresee 13 = .ok (.aload_n 0, 1) := by decide +kernel
theorem dX8_foresee_14 : decode cX8_foresee 14 = .ok (.iconst 1, 1) := by decide +kernel
theorem dX8_foresee_15 : decode cX8_foresee 15 = .ok (.invokevirtual 38, 3) := by decide +kernel
theorem dX8_foresee_18 : decode cX8_foresee 18 = .ok (.ireturn, 1) := by decide +kernel
theorem dX8_foresee_19 : decode cX8_foresee 19 = .ok (.iload_n 2, 1) := by decide +kernel
theorem dX8_foresee_20 : decode cX8_foresee 20 = .ok (.iconst 0, 1) := by decide +kernel
theorem dX8_foresee_21 : decode cX8_foresee 21 = .ok (.bipush 100, 2) := by decide +kernel
theorem dX8_foresee_23 : decode cX8_foresee 23 = .ok (.invokestatic 34, 3) := by decide +kernel
theorem dX8_foresee_26 : decode cX8_foresee 26 = .ok (.ifCond .ne 9, 3) := by decide +kernel
theorem dX8_foresee_29 : decode cX8_foresee 29 = .ok (.aload_n 0, 1) := by decide +kernel
theorem dX8_foresee_30 : decode cX8_foresee 30 = .ok (.iconst 2, 1) := by decide +kernel
theorem dX8_foresee_31 : decode cX8_foresee 31 = .ok (.invokevirtual 38, 3) := by decide +kernel
theorem dX8_foresee_34 : decode cX8_foresee 34 = .ok (.ireturn, 1) := by decide +kernel
theorem dX8_foresee_35 : decode cX8_foresee 35 = .ok (.aload_n 0, 1) := by decide +kernel
theorem dX8_foresee_36 : decode cX8_foresee 36 = .ok (.getfield 10, 3) := by decide +kernel
theorem dX8_foresee_39 : decode cX8_foresee 39 = .ok (.getfield 104, 3) := by decide +kernel
theorem dX8_foresee_42 : decode cX8_foresee 42 = .ok (.iload_n 2, 1) := by decide +kernel
theorem dX8_foresee_43 : decode cX8_foresee 43 = .ok (.iadd, 1) := by decide +kernel
theorem dX8_foresee_44 : decode cX8_foresee 44 = .ok (.sipush 2000, 3) := by decide +kernel
theorem dX8_foresee_47 : decode cX8_foresee 47 = .ok (.if_icmp .le 9, 3) := by decide +kernel
theorem dX8_foresee_50 : decode cX8_foresee 50 = .ok (.aload_n 0, 1) := by decide +kernel
theorem dX8_foresee_51 : decode cX8_foresee 51 = .ok (.iconst 3, 1) := by decide +kernel
theorem dX8_foresee_52 : decode cX8_foresee 52 = .ok (.invokevirtual 38, 3) := by decide +kernel
theorem dX8_foresee_55 : decode cX8_foresee 55 = .ok (.ireturn, 1) := by decide +kernel
theorem dX8_foresee_56 : decode cX8_foresee 56 = .ok (.aload_n 0, 1) := by decide +kernel
theorem dX8_foresee_57 : decode cX8_foresee 57 = .ok (.getfield 16, 3) := by decide +kernel
theorem dX8_foresee_60 : decode cX8_foresee 60 = .ok (.aload_n 0, 1) := by decide +kernel
theorem dX8_foresee_61 : decode cX8_foresee 61 = .ok (.getfield 10, 3) := by decide +kernel
theorem dX8_foresee_64 : decode cX8_foresee 64 = .ok (.invokevirtual 143, 3) := by decide +kernel
theorem dX8_foresee_67 : decode cX8_foresee 67 = .ok (.iconst 0, 1) := by decide +kernel
theorem dX8_foresee_68 : decode cX8_foresee 68 = .ok (.istore_n 3, 1) := by decide +kernel
theorem dX8_foresee_69 : decode cX8_foresee 69 = .ok (.iload_n 3, 1) := by decide +kernel
theorem dX8_foresee_70 : decode cX8_foresee 70 = .ok (.iload_n 2, 1) := by decide +kernel
theorem dX8_foresee_71 : decode cX8_foresee 71 = .ok (.if_icmp .ge 17, 3) := by decide +kernel
theorem dX8_foresee_74 : decode cX8_foresee 74 = .ok (.aload_n 0, 1) := by decide +kernel
theorem dX8_foresee_75 : decode cX8_foresee 75 = .ok (.getfield 16, 3) := by decide +kernel
theorem dX8_foresee_78 : decode cX8_foresee 78 = .ok (.invokevirtual 125, 3) := by decide +kernel
theorem dX8_foresee_81 : decode cX8_foresee 81 = .ok (.pop, 1) := by decide +kernel
theorem dX8_foresee_82 : decode cX8_foresee 82 = .ok (.iinc 3 1, 3) := by decide +kernel
theorem dX8_foresee_85 : decode cX8_foresee 85 = .ok (.goto (-16), 3) := by decide +kernel
theorem dX8_foresee_88 : decode cX8_foresee 88 = .ok (.aload_n 0, 1) := by decide +kernel
theorem dX8_foresee_89 : decode cX8_foresee 89 = .ok (.getfield 16, 3) := by decide +kernel
theorem dX8_foresee_92 : decode cX8_foresee 92 = .ok (.iload_n 1, 1) := by decide +kernel
theorem dX8_foresee_93 : decode cX8_foresee 93 = .ok (.bipush 6, 2) := by decide +kernel
theorem dX8_foresee_95 : decode cX8_foresee 95 = .ok (.invokevirtual 56, 3) := by decide +kernel
theorem dX8_foresee_98 : decode cX8_foresee 98 = .ok (.ireturn, 1) := by decide +kernel
theorem dX8_first_0 : decode cX8_first 0 = .ok (.aload_n 0, 1) := by decide +kernel
theorem dX8_first_1 : decode cX8_first 1 = .ok (.getfield 16, 3) := by decide +kernel
theorem dX8_first_4 : decode cX8_first 4 = .ok (.aload_n 0, 1) := by decide +kernel
theorem dX8_first_5 : decode cX8_first 5 = .ok (.getfield 10, 3) := by decide +kernel
theorem dX8_first_8 : decode cX8_first 8 = .ok (.invokevirtual 143, 3) := by decide +kernel
theorem dX8_first_11 : decode cX8_first 11 = .ok (.iload_n 3, 1) := by decide +kernel
theorem dX8_first_12 : decode cX8_first 12 = .ok (.iconst (-1), 1) := by decide +kernel
theorem dX8_first_13 : decode cX8_first 13 = .ok (.if_icmp .eq 11, 3) := by decide +kernel
theorem dX8_first_16 : decode cX8_first 16 = .ok (.aload_n 0, 1) := by decide +kernel
theorem dX8_first_17 : decode cX8_first 17 = .ok (.getfield 16, 3) := by decide +kernel
theorem dX8_first_20 : decode cX8_first 20 = .ok (.iload_n 3, 1) := by decide +kernel
theorem dX8_first_21 : decode cX8_first 21 = .ok (.invokevirtual 72, 3) := by decide +kernel
theorem dX8_first_24 : decode cX8_first 24 = .ok (.iconst 0, 1) := by decide +kernel
theorem dX8_first_25 : decode cX8_first 25 = .ok (.istore 4, 2) := by decide +kernel
theorem dX8_first_27 : decode cX8_first 27 = .ok (.iload 4, 2) := by decide +kernel
theorem dX8_first_29 : decode cX8_first 29 = .ok (.iload_n 2, 1) := by decide +kernel
theorem dX8_first_30 : decode cX8_first 30 = .ok (.if_icmp .ge 43, 3) := by decide +kernel
theorem dX8_first_33 : decode cX8_first 33 = .ok (.aload_n 0, 1) := by decide +kernel
theorem dX8_first_34 : decode cX8_first 34 = .ok (.getfield 16, 3) := by decide +kernel
theorem dX8_first_37 : decode cX8_first 37 = .ok (.invokevirtual 147, 3) := by decide +kernel
theorem dX8_first_40 : decode cX8_first 40 = .ok (.aload_n 0, 1) := by decide +kernel
theorem dX8_first_41 : decode cX8_first 41 = .ok (.getfield 16, 3) := by decide +kernel
theorem dX8_first_44 : decode cX8_first 44 = .ok (.iload_n 1, 1) := by decide +kernel
theorem dX8_first_45 : decode cX8_first 45 = .ok (.invokevirtual 116, 3) := by decide +kernel
theorem dX8_first_48 : decode cX8_first 48 = .ok (.ifCond .eq 11, 3) := by decide +kernel
theorem dX8_first_51 : decode cX8_first 51 = .ok (.aload_n 0, 1) := by decide +kernel
theorem dX8_first_52 : decode cX8_first 52 = .ok (.getfield 16, 3) := by decide +kernel
theorem dX8_first_55 : decode cX8_first 55 = .ok (.getfield 104, 3) := by decide +kernel
theorem dX8_first_58 : decode cX8_first 58 = .ok (.ireturn, 1) := by decide +kernel
theorem dX8_first_59 : decode cX8_first 59 = .ok (.aload_n 0, 1) := by decide +kernel
theorem dX8_first_60 : decode cX8_first 60 = .ok (.getfield 16, 3) := by decide +kernel
theorem dX8_first_63 : decode cX8_first 63 = .ok (.invokevirtual 150, 3) := by decide +kernel
theorem dX8_first_66 : decode cX8_first 66 = .ok (.pop, 1) := by decide +kernel
theorem dX8_first_67 : decode cX8_first 67 = .ok (.iinc 4 1, 3) := by decide +kernel
theorem dX8_first_70 : decode cX8_first 70 = .ok (.goto (-43), 3) := by decide +kernel
theorem dX8_first_73 : decode cX8_first 73 = .ok (.iconst (-1), 1) := by decide +kernel
theorem dX8_first_74 : decode cX8_first 74 = .ok (.ireturn, 1) := by decide +kernel
theorem dX8_passes_0 : decode cX8_passes 0 = .ok (.aload_n 0, 1) := by decide +kernel
theorem dX8_passes_1 : decode cX8_passes 1 = .ok (.iconst 0, 1) := by decide +kernel
theorem dX8_passes_2 : decode cX8_passes 2 = .ok (.putfield 19, 3) := by decide +kernel
theorem dX8_passes_5 : decode cX8_passes 5 = .ok (.aload_n 0, 1) := by decide +kernel
theorem dX8_passes_6 : decode cX8_passes 6 = .ok (.iload_n 1, 1) := by decide +kernel
theorem dX8_passes_7 : decode cX8_passes 7 = .ok (.invokevirtual 101, 3) := by decide +kernel
theorem dX8_passes_10 : decode cX8_passes 10 = .ok (.ifCond .ne 9, 3) := by decide +kernel
theorem dX8_passes_13 : decode cX8_passes 13 = .ok (.aload_n 0, 1) := by decide +kernel
theorem dX8_passes_14 : decode cX8_passes 14 = .ok (.iconst 1, 1) := by decide +kernel
theorem dX8_passes_15 : decode cX8_passes 15 = .ok (.invokevirtual 38, 3) := by decide +kernel
theorem dX8_passes_18 : decode cX8_passes 18 = .ok (.ireturn, 1) := by decide +kernel
theorem dX8_passes_19 : decode cX8_passes 19 = .ok (.iload_n 2, 1) := by decide +kernel
theorem dX8_passes_20 : decode cX8_passes 20 = .ok (.iconst 1, 1) := by decide +kernel
theorem dX8_passes_21 : decode cX8_passes 21 = .ok (.bipush 100, 2) := by decide +kernel
theorem dX8_passes_23 : decode cX8_passes 23 = .ok (.invokestatic 34, 3) := by decide +kernel
theorem dX8_passes_26 : decode cX8_passes 26 = .ok (.ifCond .ne 9, 3) := by decide +kernel
theorem dX8_passes_29 : decode cX8_passes 29 = .ok (.aload_n 0, 1) := by decide +kernel
theorem dX8_passes_30 : decode cX8_passes 30 = .ok (.iconst 2, 1) := by decide +kernel
theorem dX8_passes_31 : decode cX8_passes 31 = .ok (.invokevirtual 38, 3) := by decide +kernel
theorem dX8_passes_34 : decode cX8_passes 34 = .ok (.ireturn, 1) := by decide +kernel
theorem dX8_passes_35 : decode cX8_passes 35 = .ok (.aload_n 0, 1) := by decide +kernel
theorem dX8_passes_36 : decode cX8_passes 36 = .ok (.getfield 10, 3) := by decide +kernel
theorem dX8_passes_39 : decode cX8_passes 39 = .ok (.getfield 104, 3) := by decide +kernel
theorem dX8_passes_42 : decode cX8_passes 42 = .ok (.iload_n 2, 1) := by decide +kernel
theorem dX8_passes_43 : decode cX8_passes 43 = .ok (.iadd, 1) := by decide +kernel
theorem dX8_passes_44 : decode cX8_passes 44 = .ok (.sipush 2000, 3) := by decide +kernel
theorem dX8_passes_47 : decode cX8_passes 47 = .ok (.if_icmp .le 11, 3) := by decide +kernel
theorem dX8_passes_50 : decode cX8_passes 50 = .ok (.aload_n 0, 1) := by decide +kernel
theorem dX8_passes_51 : decode cX8_passes 51 = .ok (.iconst 3, 1) := by decide +kernel
theorem dX8_passes_52 : decode cX8_passes 52 = .ok (.invokevirtual 38, 3) := by decide +kernel
theorem dX8_passes_55 : decode cX8_passes 55 = .ok (.goto 10, 3) := by decide +kernel
theorem dX8_passes_58 : decode cX8_passes 58 = .ok (.aload_n 0, 1) := by decide +kernel
theorem dX8_passes_59 : decode cX8_passes 59 = .ok (.iload_n 1, 1) := by decide +kernel
theorem dX8_passes_60 : decode cX8_passes 60 = .ok (.iload_n 2, 1) := by decide +kernel
theorem dX8_passes_61 : decode cX8_passes 61 = .ok (.iconst (-1), 1) := by decide +kernel
theorem dX8_passes_62 : decode cX8_passes 62 = .ok (.invokevirtual 153, 3) := by decide +kernel
theorem dX8_passes_65 : decode cX8_passes 65 = .ok (.ireturn, 1) := by decide +kernel
theorem dX8_advise_0 : decode cX8_advise 0 = .ok (.aload_n 0, 1) := by decide +kernel
theorem dX8_advise_1 : decode cX8_advise 1 = .ok (.iconst 0, 1) := by decide +kernel
theorem dX8_advise_2 : decode cX8_advise 2 = .ok (.putfield 19, 3) := by decide +kernel
theorem dX8_advise_5 : decode cX8_advise 5 = .ok (.aload_n 0, 1) := by decide +kernel
theorem dX8_advise_6 : decode cX8_advise 6 = .ok (.iload_n 1, 1) := by decide +kernel
theorem dX8_advise_7 : decode cX8_advise 7 = .ok (.invokevirtual 101, 3) := by decide +kernel
theorem dX8_advise_10 : decode cX8_advise 10 = .ok (.ifCond .ne 9, 3) := by decide +kernel
theorem dX8_advise_13 : decode cX8_advise 13 = .ok (.aload_n 0, 1) := by decide +kernel
theorem dX8_advise_14 : decode cX8_advise 14 = .ok (.iconst 1, 1) := by decide +kernel
theorem dX8_advise_15 : decode cX8_advise 15 = .ok (.invokevirtual 38, 3) := by decide +kernel
theorem dX8_advise_18 : decode cX8_advise 18 = .ok (.ireturn, 1) := by decide +kernel
theorem dX8_advise_19 : decode cX8_advise 19 = .ok (.iload_n 2, 1) := by decide +kernel
theorem dX8_advise_20 : decode cX8_advise 20 = .ok (.iconst 1, 1) := by decide +kernel
theorem dX8_advise_21 : decode cX8_advise 21 = .ok (.bipush 50, 2) := by decide +kernel
theorem dX8_advise_23 : decode cX8_advise 23 = .ok (.invokestatic 34, 3) := by decide +kernel
theorem dX8_advise_26 : decode cX8_advise 26 = .ok (.ifCond .ne 9, 3) := by decide +kernel
theorem dX8_advise_29 : decode cX8_advise 29 = .ok (.aload_n 0, 1) := by decide +kernel
theorem dX8_advise_30 : decode cX8_advise 30 = .ok (.iconst 2, 1) := by decide +kernel
theorem dX8_advise_31 : decode cX8_advise 31 = .ok (.invokevirtual 38, 3) := by decide +kernel
theorem dX8_advise_34 : decode cX8_advise 34 = .ok (.ireturn, 1) := by decide +kernel
theorem dX8_advise_35 : decode cX8_advise 35 = .ok (.aload_n 0, 1) := by decide +kernel
theorem dX8_advise_36 : decode cX8_advise 36 = .ok (.getfield 10, 3) := by decide +kernel
theorem dX8_advise_39 : decode cX8_advise 39 = .ok (.getfield 104, 3) := by decide +kernel
theorem dX8_advise_42 : decode cX8_advise 42 = .ok (.iload_n 2, 1) := by decide +kernel
theorem dX8_advise_43 : decode cX8_advise 43 = .ok (.iadd, 1) := by decide +kernel
theorem dX8_advise_44 : decode cX8_advise 44 = .ok (.sipush 2000, 3) := by decide +kernel
theorem dX8_advise_47 : decode cX8_advise 47 = .ok (.if_icmp .le 9, 3) := by decide +kernel
theorem dX8_advise_50 : decode cX8_advise 50 = .ok (.aload_n 0, 1) := by decide +kernel
theorem dX8_advise_51 : decode cX8_advise 51 = .ok (.iconst 3, 1) := by decide +kernel
theorem dX8_advise_52 : decode cX8_advise 52 = .ok (.invokevirtual 38, 3) := by decide +kernel
theorem dX8_advise_55 : decode cX8_advise 55 = .ok (.ireturn, 1) := by decide +kernel
theorem dX8_advise_56 : decode cX8_advise 56 = .ok (.iconst (-1), 1) := by decide +kernel
theorem dX8_advise_57 : decode cX8_advise 57 = .ok (.istore_n 3, 1) := by decide +kernel
theorem dX8_advise_58 : decode cX8_advise 58 = .ok (.aload_n 0, 1) := by decide +kernel
theorem dX8_advise_59 : decode cX8_advise 59 = .ok (.iload_n 1, 1) := by decide +kernel
theorem dX8_advise_60 : decode cX8_advise 60 = .ok (.iload_n 2, 1) := by decide +kernel
theorem dX8_advise_61 : decode cX8_advise 61 = .ok (.iconst (-1), 1) := by decide +kernel
theorem dX8_advise_62 : decode cX8_advise 62 = .ok (.invokevirtual 153, 3) := by decide +kernel
theorem dX8_advise_65 : decode cX8_advise 65 = .ok (.istore 4, 2) := by decide +kernel
theorem dX8_advise_67 : decode cX8_advise 67 = .ok (.iconst 0, 1) := by decide +kernel
theorem dX8_advise_68 : decode cX8_advise 68 = .ok (.istore 5, 2) := by decide +kernel
theorem dX8_advise_70 : decode cX8_advise 70 = .ok (.iload 5, 2) := by decide +kernel
theorem dX8_advise_72 : decode cX8_advise 72 = .ok (.aload_n 0, 1) := by decide +kernel
theorem dX8_advise_73 : decode cX8_advise 73 = .ok (.getfield 10, 3) := by decide +kernel
theorem dX8_advise_76 : decode cX8_advise 76 = .ok (.getfield 53, 3) := by decide +kernel
theorem dX8_advise_79 : decode cX8_advise 79 = .ok (.if_icmp .ge 48, 3) := by decide +kernel
theorem dX8_advise_82 : decode cX8_advise 82 = .ok (.aload_n 0, 1) := by decide +kernel
theorem dX8_advise_83 : decode cX8_advise 83 = .ok (.iload_n 1, 1) := by decide +kernel
theorem dX8_advise_84 : decode cX8_advise 84 = .ok (.iload_n 2, 1) := by decide +kernel
theorem dX8_advise_85 : decode cX8_advise 85 = .ok (.iload 5, 2) := by decide +kernel
theorem dX8_advise_87 : decode cX8_advise 87 = .ok (.invokevirtual 153, 3) := by decide +kernel
theorem dX8_advise_90 : decode cX8_advise 90 = .ok (.istore 6, 2) := by decide +kernel
theorem dX8_advise_92 : decode cX8_advise 92 = .ok (.iload 6, 2) := by decide +kernel
theorem dX8_advise_94 : decode cX8_advise 94 = .ok (.iconst (-1), 1) := by decide +kernel
theorem dX8_advise_95 : decode cX8_advise 95 = .ok (.if_icmp .eq 26, 3) := by decide +kernel
theorem dX8_advise_98 : decode cX8_advise 98 = .ok (.iload 4, 2) := by decide +kernel
theorem dX8_advise_100 : decode cX8_advise 100 = .ok (.iconst (-1), 1) := by decide +kernel
theorem dX8_advise_101 : decode cX8_advise 101 = .ok (.if_icmp .eq 13, 3) := by decide +kernel
theorem dX8_advise_104 : decode cX8_advise 104 = .ok (.iload 6, 2) := by decide +kernel
theorem dX8_advise_106 : decode cX8_advise 106 = .ok (.iload 4, 2) := by decide +kernel
theorem dX8_advise_108 : decode cX8_advise 108 = .ok (.if_icmp .lt 6, 3) := by decide +kernel
theorem dX8_advise_111 : decode cX8_advise 111 = .ok (.goto 10, 3) := by decide +kernel
theorem dX8_advise_114 : decode cX8_advise 114 = .ok (.iload 6, 2) := by decide +kernel
theorem dX8_advise_116 : decode cX8_advise 116 = .ok (.istore 4, 2) := by decide +kernel
theorem dX8_advise_118 : decode cX8_advise 118 = .ok (.iload 5, 2) := by decide +kernel
theorem dX8_advise_120 : decode cX8_advise 120 = .ok (.istore_n 3, 1) := by decide +kernel
theorem dX8_advise_121 : decode cX8_advise 121 = .ok (.iinc 5 1, 3) := by decide +kernel
theorem dX8_advise_124 : decode cX8_advise 124 = .ok (.goto (-54), 3) := by decide +kernel
theorem dX8_advise_127 : decode cX8_advise 127 = .ok (.iload_n 3, 1) := by decide +kernel
theorem dX8_advise_128 : decode cX8_advise 128 = .ok (.ireturn, 1) := by decide +kernel
theorem dX8_discord_0 : decode cX8_discord 0 = .ok (.aload_n 0, 1) := by decide +kernel
theorem dX8_discord_1 : decode cX8_discord 1 = .ok (.iconst 0, 1) := by decide +kernel
theorem dX8_discord_2 : decode cX8_discord 2 = .ok (.putfield 19, 3) := by decide +kernel
theorem dX8_discord_5 : decode cX8_discord 5 = .ok (.iconst 0, 1) := by decide +kernel
theorem dX8_discord_6 : decode cX8_discord 6 = .ok (.istore_n 1, 1) := by decide +kernel
theorem dX8_discord_7 : decode cX8_discord 7 = .ok (.iconst 0, 1) := by decide +kernel
theorem dX8_discord_8 : decode cX8_discord 8 = .ok (.istore_n 2, 1) := by decide +kernel
theorem dX8_discord_9 : decode cX8_discord 9 = .ok (.iload_n 2, 1) := by decide +kernel
theorem dX8_discord_10 : decode cX8_discord 10 = .ok (.aload_n 0, 1) := by decide +kernel
theorem dX8_discord_11 : decode cX8_discord 11 = .ok (.getfield 10, 3) := by decide +kernel
theorem dX8_discord_14 : decode cX8_discord 14 = .ok (.getfield 53, 3) := by decide +kernel
theorem dX8_discord_17 : decode cX8_discord 17 = .ok (.if_icmp .ge 43, 3) := by decide +kernel
theorem dX8_discord_20 : decode cX8_discord 20 = .ok (.iload_n 1, 1) := by decide +kernel
theorem dX8_discord_21 : decode cX8_discord 21 = .ok (.aload_n 0, 1) := by decide +kernel
theorem dX8_discord_22 : decode cX8_discord 22 = .ok (.getfield 10, 3) := by decide +kernel
theorem dX8_discord_25 : decode cX8_discord 25 = .ok (.iload_n 2, 1) := by decide +kernel
theorem dX8_discord_26 : decode cX8_discord 26 = .ok (.bipush 6, 2) := by decide +kernel
theorem dX8_discord_28 : decode cX8_discord 28 = .ok (.invokevirtual 56, 3) := by decide +kernel
theorem dX8_discord_31 : decode cX8_discord 31 = .ok (.aload_n 0, 1) := by decide +kernel
theorem dX8_discord_32 : decode cX8_discord 32 = .ok (.getfield 10, 3) := by decide +kernel
theorem dX8_discord_35 : decode cX8_discord 35 = .ok (.getfield 23, 3) := by decide +kernel
theorem dX8_discord_38 : decode cX8_discord 38 = .ok (.aload_n 0, 1) := by decide +kernel
theorem dX8_discord_39 : decode cX8_discord 39 = .ok (.getfield 10, 3) := by decide +kernel
theorem dX8_discord_42 : decode cX8_discord 42 = .ok (.invokevirtual 157, 3) := by decide +kernel
theorem dX8_discord_45 : decode cX8_discord 45 = .ok (.iaload, 1) := by decide +kernel
theorem dX8_discord_46 : decode cX8_discord 46 = .ok (.invokestatic 92, 3) := by decide +kernel
theorem dX8_discord_49 : decode cX8_discord 49 = .ok (.invokestatic 160, 3) := by decide +kernel
theorem dX8_discord_52 : decode cX8_discord 52 = .ok (.iadd, 1) := by decide +kernel
theorem dX8_discord_53 : decode cX8_discord 53 = .ok (.istore_n 1, 1) := by decide +kernel
theorem dX8_discord_54 : decode cX8_discord 54 = .ok (.iinc 2 1, 3) := by decide +kernel
theorem dX8_discord_57 : decode cX8_discord 57 = .ok (.goto (-48), 3) := by decide +kernel
theorem dX8_discord_60 : decode cX8_discord 60 = .ok (.aload_n 0, 1) := by decide +kernel
theorem dX8_discord_61 : decode cX8_discord 61 = .ok (.getfield 10, 3) := by decide +kernel
theorem dX8_discord_64 : decode cX8_discord 64 = .ok (.getfield 53, 3) := by decide +kernel
theorem dX8_discord_67 : decode cX8_discord 67 = .ok (.ifCond .ne 7, 3) := by decide +kernel
theorem dX8_discord_70 : decode cX8_discord 70 = .ok (.dconst 0, 1) := by decide +kernel
theorem dX8_discord_71 : decode cX8_discord 71 = .ok (.goto 14, 3) := by decide +kernel
theorem dX8_discord_74 : decode cX8_discord 74 = .ok (.iload_n 1, 1) := by decide +kernel
theorem dX8_discord_75 : decode cX8_discord 75 = .ok (.i2d, 1) := by decide +kernel
theorem dX8_discord_76 : decode cX8_discord 76 = .ok (.aload_n 0, 1) := by decide +kernel
theorem dX8_discord_77 : decode cX8_discord 77 = .ok (.getfield 10, 3) := by decide +kernel
theorem dX8_discord_80 : decode cX8_discord 80 = .ok (.getfield 53, 3) := by decide +kernel
theorem dX8_discord_83 : decode cX8_discord 83 = .ok (.i2d, 1) := by decide +kernel
theorem dX8_discord_84 : decode cX8_discord 84 = .ok (.ddiv, 1) := by decide +kernel
theorem dX8_discord_85 : decode cX8_discord 85 = .ok (.dreturn, 1) := by decide +kernel
theorem dX8_digest_0 : decode cX8_digest 0 = .ok (.aload_n 0, 1) := by decide +kernel
theorem dX8_digest_1 : decode cX8_digest 1 = .ok (.iconst 0, 1) := by decide +kernel
theorem dX8_digest_2 : decode cX8_digest 2 = .ok (.putfield 19, 3) := by decide +kernel
theorem dX8_digest_5 : decode cX8_digest 5 = .ok (.ldc2_w 165, 3) := by decide +kernel
theorem dX8_digest_8 : decode cX8_digest 8 = .ok (.lstore_n 1, 1) := by decide +kernel
theorem dX8_digest_9 : decode cX8_digest 9 = .ok (.iconst 0, 1) := by decide +kernel
theorem dX8_digest_10 : decode cX8_digest 10 = .ok (.istore_n 3, 1) := by decide +kernel
theorem dX8_digest_11 : decode cX8_digest 11 = .ok (.iload_n 3, 1) := by decide +kernel
theorem dX8_digest_12 : decode cX8_digest 12 = .ok (.bipush 9, 2) := by decide +kernel
theorem dX8_digest_14 : decode cX8_digest 14 = .ok (.if_icmp .ge 22, 3) := by decide +kernel
theorem dX8_digest_17 : decode cX8_digest 17 = .ok (.lload_n 1, 1) := by decide +kernel
theorem dX8_digest_18 : decode cX8_digest 18 = .ok (.ldc2_w 167, 3) := by decide +kernel
theorem dX8_digest_21 : decode cX8_digest 21 = .ok (.lmul, 1) := by decide +kernel
theorem dX8_digest_22 : decode cX8_digest 22 = .ok (.aload_n 0, 1) := by decide +kernel
theorem dX8_digest_23 : decode cX8_digest 23 = .ok (.iload_n 3, 1) := by decide +kernel
theorem dX8_digest_24 : decode cX8_digest 24 = .ok (.invokevirtual 132, 3) := by decide +kernel
theorem dX8_digest_27 : decode cX8_digest 27 = .ok (.i2l, 1) := by decide +kernel
theorem dX8_digest_28 : decode cX8_digest 28 = .ok (.ladd, 1) := by decide +kernel
theorem dX8_digest_29 : decode cX8_digest 29 = .ok (.lstore_n 1, 1) := by decide +kernel
theorem dX8_digest_30 : decode cX8_digest 30 = .ok (.iinc 3 1, 3) := by decide +kernel
theorem dX8_digest_33 : decode cX8_digest 33 = .ok (.goto (-22), 3) := by decide +kernel
theorem dX8_digest_36 : decode cX8_digest 36 = .ok (.iconst 0, 1) := by decide +kernel
theorem dX8_digest_37 : decode cX8_digest 37 = .ok (.istore_n 3, 1) := by decide +kernel
theorem dX8_digest_38 : decode cX8_digest 38 = .ok (.iload_n 3, 1) := by decide +kernel
theorem dX8_digest_39 : decode cX8_digest 39 = .ok (.aload_n 0, 1) := by decide +kernel
theorem dX8_digest_40 : decode cX8_digest 40 = .ok (.getfield 10, 3) := by decide +kernel
theorem dX8_digest_43 : decode cX8_digest 43 = .ok (.getfield 42, 3) := by decide +kernel
theorem dX8_digest_46 : decode cX8_digest 46 = .ok (.if_icmp .ge 39, 3) := by decide +kernel
theorem dX8_digest_49 : decode cX8_digest 49 = .ok (.iconst 0, 1) := by decide +kernel
theorem dX8_digest_50 : decode cX8_digest 50 = .ok (.istore 4, 2) := by decide +kernel
theorem dX8_digest_52 : decode cX8_digest 52 = .ok (.iload 4, 2) := by decide +kernel
theorem dX8_digest_54 : decode cX8_digest 54 = .ok (.iconst 3, 1) := by decide +kernel
theorem dX8_digest_55 : decode cX8_digest 55 = .ok (.if_icmp .ge 24, 3) := by decide +kernel
theorem dX8_digest_58 : decode cX8_digest 58 = .ok (.lload_n 1, 1) := by decide +kernel
theorem dX8_digest_59 : decode cX8_digest 59 = .ok (.ldc2_w 167, 3) := by decide +kernel
theorem dX8_digest_62 : decode cX8_digest 62 = .ok (.lmul, 1) := by decide +kernel
theorem dX8_digest_63 : decode cX8_digest 63 = .ok (.aload_n 0, 1) := by decide +kernel
theorem dX8_digest_64 : decode cX8_digest 64 = .ok (.iload_n 3, 1) := by decide +kernel
theorem dX8_digest_65 : decode cX8_digest 65 = .ok (.iload 4, 2) := by decide +kernel
theorem dX8_digest_67 : decode cX8_digest 67 = .ok (.invokevirtual 49, 3) := by decide +kernel
theorem dX8_digest_70 : decode cX8_digest 70 = .ok (.i2l, 1) := by decide +kernel
theorem dX8_digest_71 : decode cX8_digest 71 = .ok (.ladd, 1) := by decide +kernel
theorem dX8_digest_72 : decode cX8_digest 72 = .ok (.lstore_n 1, 1) := by decide +kernel
theorem dX8_digest_73 : decode cX8_digest 73 = .ok (.iinc 4 1, 3) := by decide +kernel
theorem dX8_digest_76 : decode cX8_digest 76 = .ok (.goto (-24), 3) := by decide +kernel
theorem dX8_digest_79 : decode cX8_digest 79 = .ok (.iinc 3 1, 3) := by decide +kernel
theorem dX8_digest_82 : decode cX8_digest 82 = .ok (.goto (-44), 3) := by decide +kernel
theorem dX8_digest_85 : decode cX8_digest 85 = .ok (.iconst 0, 1) := by decide +kernel
theorem dX8_digest_86 : decode cX8_digest 86 = .ok (.istore_n 3, 1) := by decide +kernel
theorem dX8_digest_87 : decode cX8_digest 87 = .ok (.iload_n 3, 1) := by decide +kernel
theorem dX8_digest_88 : decode cX8_digest 88 = .ok (.aload_n 0, 1) := by decide +kernel
theorem dX8_digest_89 : decode cX8_digest 89 = .ok (.getfield 10, 3) := by decide +kernel
theorem dX8_digest_92 : decode cX8_digest 92 = .ok (.getfield 53, 3) := by decide +kernel
theorem dX8_digest_95 : decode cX8_digest 95 = .ok (.if_icmp .ge 40, 3) := by decide +kernel
theorem dX8_digest_98 : decode cX8_digest 98 = .ok (.iconst 0, 1) := by decide +kernel
theorem dX8_digest_99 : decode cX8_digest 99 = .ok (.istore 4, 2) := by decide +kernel
theorem dX8_digest_101 : decode cX8_digest 101 = .ok (.iload 4, 2) := by decide +kernel
theorem dX8_digest_103 : decode cX8_digest 103 = .ok (.bipush 12, 2) := by decide +kernel
theorem dX8_digest_105 : decode cX8_digest 105 = .ok (.if_icmp .ge 24, 3) := by decide +kernel
theorem dX8_digest_108 : decode cX8_digest 108 = .ok (.lload_n 1, 1) := by decide +kernel
theorem dX8_digest_109 : decode cX8_digest 109 = .ok (.ldc2_w 167, 3) := by decide +kernel
theorem dX8_digest_112 : decode cX8_digest 112 = .ok (.lmul, 1) := by decide +kernel
theorem dX8_digest_113 : decode cX8_digest 113 = .ok (.aload_n 0, 1) := by decide +kernel
theorem dX8_digest_114 : decode cX8_digest 114 = .ok (.iload_n 3, 1) := by decide +kernel
theorem dX8_digest_115 : decode cX8_digest 115 = .ok (.iload 4, 2) := by decide +kernel
theorem dX8_digest_117 : decode cX8_digest 117 = .ok (.invokevirtual 89, 3) := by decide +kernel
theorem dX8_digest_120 : decode cX8_digest 120 = .ok (.i2l, 1) := by decide +kernel
theorem dX8_digest_121 : decode cX8_digest 121 = .ok (.ladd, 1) := by decide +kernel
theorem dX8_digest_122 : decode cX8_digest 122 = .ok (.lstore_n 1, 1) := by decide +kernel
theorem dX8_digest_123 : decode cX8_digest 123 = .ok (.iinc 4 1, 3) := by decide +kernel
theorem dX8_digest_126 : decode cX8_digest 126 = .ok (.goto (-25), 3) := by decide +kernel
theorem dX8_digest_129 : decode cX8_digest 129 = .ok (.iinc 3 1, 3) := by decide +kernel
theorem dX8_digest_132 : decode cX8_digest 132 = .ok (.goto (-45), 3) := by decide +kernel
theorem dX8_digest_135 : decode cX8_digest 135 = .ok (.iconst 0, 1) := by decide +kernel
theorem dX8_digest_136 : decode cX8_digest 136 = .ok (.istore_n 3, 1) := by decide +kernel
theorem dX8_digest_137 : decode cX8_digest 137 = .ok (.iload_n 3, 1) := by decide +kernel
theorem dX8_digest_138 : decode cX8_digest 138 = .ok (.aload_n 0, 1) := by decide +kernel
theorem dX8_digest_139 : decode cX8_digest 139 = .ok (.getfield 10, 3) := by decide +kernel
theorem dX8_digest_142 : decode cX8_digest 142 = .ok (.getfield 95, 3) := by decide +kernel
theorem dX8_digest_145 : decode cX8_digest 145 = .ok (.if_icmp .ge 40, 3) := by decide +kernel
theorem dX8_digest_148 : decode cX8_digest 148 = .ok (.iconst 0, 1) := by decide +kernel
theorem dX8_digest_149 : decode cX8_digest 149 = .ok (.istore 4, 2) := by decide +kernel
theorem dX8_digest_151 : decode cX8_digest 151 = .ok (.iload 4, 2) := by decide +kernel
theorem dX8_digest_153 : decode cX8_digest 153 = .ok (.bipush 9, 2) := by decide +kernel
theorem dX8_digest_155 : decode cX8_digest 155 = .ok (.if_icmp .ge 24, 3) := by decide +kernel
theorem dX8_digest_158 : decode cX8_digest 158 = .ok (.lload_n 1, 1) := by decide +kernel
theorem dX8_digest_159 : decode cX8_digest 159 = .ok (.ldc2_w 167, 3) := by decide +kernel
theorem dX8_digest_162 : decode cX8_digest 162 = .ok (.lmul, 1) := by decide +kernel
theorem dX8_digest_163 : decode cX8_digest 163 = .ok (.aload_n 0, 1) := by decide +kernel
theorem dX8_digest_164 : decode cX8_digest 164 = .ok (.iload_n 3, 1) := by decide +kernel
theorem dX8_digest_165 : decode cX8_digest 165 = .ok (.iload 4, 2) := by decide +kernel
theorem dX8_digest_167 : decode cX8_digest 167 = .ok (.invokevirtual 119, 3) := by decide +kernel
theorem dX8_digest_170 : decode cX8_digest 170 = .ok (.i2l, 1) := by decide +kernel
theorem dX8_digest_171 : decode cX8_digest 171 = .ok (.ladd, 1) := by decide +kernel
theorem dX8_digest_172 : decode cX8_digest 172 = .ok (.lstore_n 1, 1) := by decide +kernel
theorem dX8_digest_173 : decode cX8_digest 173 = .ok (.iinc 4 1, 3) := by decide +kernel
theorem dX8_digest_176 : decode cX8_digest 176 = .ok (.goto (-25), 3) := by decide +kernel
theorem dX8_digest_179 : decode cX8_digest 179 = .ok (.iinc 3 1, 3) := by decide +kernel
theorem dX8_digest_182 : decode cX8_digest 182 = .ok (.goto (-45), 3) := by decide +kernel
theorem dX8_digest_185 : decode cX8_digest 185 = .ok (.iconst 0, 1) := by decide +kernel
theorem dX8_digest_186 : decode cX8_digest 186 = .ok (.istore_n 3, 1) := by decide +kernel
theorem dX8_digest_187 : decode cX8_digest 187 = .ok (.iload_n 3, 1) := by decide +kernel
theorem dX8_digest_188 : decode cX8_digest 188 = .ok (.iconst 2, 1) := by decide +kernel
theorem dX8_digest_189 : decode cX8_digest 189 = .ok (.aload_n 0, 1) := by decide +kernel
theorem dX8_digest_190 : decode cX8_digest 190 = .ok (.getfield 10, 3) := by decide +kernel
theorem dX8_digest_193 : decode cX8_digest 193 = .ok (.getfield 107, 3) := by decide +kernel
theorem dX8_digest_196 : decode cX8_digest 196 = .ok (.imul, 1) := by decide +kernel
theorem dX8_digest_197 : decode cX8_digest 197 = .ok (.if_icmp .ge 26, 3) := by decide +kernel
theorem dX8_digest_200 : decode cX8_digest 200 = .ok (.lload_n 1, 1) := by decide +kernel
theorem dX8_digest_201 : decode cX8_digest 201 = .ok (.ldc2_w 167, 3) := by decide +kernel
theorem dX8_digest_204 : decode cX8_digest 204 = .ok (.lmul, 1) := by decide +kernel
theorem dX8_digest_205 : decode cX8_digest 205 = .ok (.aload_n 0, 1) := by decide +kernel
theorem dX8_digest_206 : decode cX8_digest 206 = .ok (.getfield 10, 3) := by decide +kernel
theorem dX8_digest_209 : decode cX8_digest 209 = .ok (.getfield 110, 3) := by decide +kernel
theorem dX8_digest_212 : decode cX8_digest 212 = .ok (.iload_n 3, 1) := by decide +kernel
theorem dX8_digest_213 : decode cX8_digest 213 = .ok (.iaload, 1) := by decide +kernel
theorem dX8_digest_214 : decode cX8_digest 214 = .ok (.i2l, 1) := by decide +kernel
theorem dX8_digest_215 : decode cX8_digest 215 = .ok (.ladd, 1) := by decide +kernel
theorem dX8_digest_216 : decode cX8_digest 216 = .ok (.lstore_n 1, 1) := by decide +kernel
theorem dX8_digest_217 : decode cX8_digest 217 = .ok (.iinc 3 1, 3) := by decide +kernel
theorem dX8_digest_220 : decode cX8_digest 220 = .ok (.goto (-33), 3) := by decide +kernel
theorem dX8_digest_223 : decode cX8_digest 223 = .ok (.lload_n 1, 1) := by decide +kernel
theorem dX8_digest_224 : decode cX8_digest 224 = .ok (.lreturn, 1) := by decide +kernel
theorem dJ6_bitCount_0f7a4_0 : decode cJ6_bitCount_0f7a4 0 = .ok (.iload_n 0, 1) := by decide +kernel
theorem dJ6_bitCount_0f7a4_1 : decode cJ6_bitCount_0f7a4 1 = .ok (.iload_n 0, 1) := by decide +kernel
theorem dJ6_bitCount_0f7a4_2 : decode cJ6_bitCount_0f7a4 2 = .ok (.iconst 1, 1) := by decide +kernel
theorem dJ6_bitCount_0f7a4_3 : decode cJ6_bitCount_0f7a4 3 = .ok (.iushr, 1) := by decide +kernel
theorem dJ6_bitCount_0f7a4_4 : decode cJ6_bitCount_0f7a4 4 = .ok (.ldc_w 265, 3) := by decide +kernel
theorem dJ6_bitCount_0f7a4_7 : decode cJ6_bitCount_0f7a4 7 = .ok (.iand, 1) := by decide +kernel
theorem dJ6_bitCount_0f7a4_8 : decode cJ6_bitCount_0f7a4 8 = .ok (.isub, 1) := by decide +kernel
theorem dJ6_bitCount_0f7a4_9 : decode cJ6_bitCount_0f7a4 9 = .ok (.istore_n 0, 1) := by decide +kernel
theorem dJ6_bitCount_0f7a4_10 : decode cJ6_bitCount_0f7a4 10 = .ok (.iload_n 0, 1) := by decide +kernel
theorem dJ6_bitCount_0f7a4_11 : decode cJ6_bitCount_0f7a4 11 = .ok (.ldc_w 266, 3) := by decide +kernel
theorem dJ6_bitCount_0f7a4_14 : decode cJ6_bitCount_0f7a4 14 = .ok (.iand, 1) := by decide +kernel
theorem dJ6_bitCount_0f7a4_15 : decode cJ6_bitCount_0f7a4 15 = .ok (.iload_n 0, 1) := by decide +kernel
theorem dJ6_bitCount_0f7a4_16 : decode cJ6_bitCount_0f7a4 16 = .ok (.iconst 2, 1) := by decide +kernel
theorem dJ6_bitCount_0f7a4_17 : decode cJ6_bitCount_0f7a4 17 = .ok (.iushr, 1) := by decide +kernel
theorem dJ6_bitCount_0f7a4_18 : decode cJ6_bitCount_0f7a4 18 = .ok (.ldc_w 266, 3) := by decide +kernel
theorem dJ6_bitCount_0f7a4_21 : decode cJ6_bitCount_0f7a4 21 = .ok (.iand, 1) := by decide +kernel
theorem dJ6_bitCount_0f7a4_22 : decode cJ6_bitCount_0f7a4 22 = .ok (.iadd, 1) := by decide +kernel
theorem dJ6_bitCount_0f7a4_23 : decode cJ6_bitCount_0f7a4 23 = .ok (.istore_n 0, 1) := by decide +kernel
theorem dJ6_bitCount_0f7a4_24 : decode cJ6_bitCount_0f7a4 24 = .ok (.iload_n 0, 1) := by decide +kernel
theorem dJ6_bitCount_0f7a4_25 : decode cJ6_bitCount_0f7a4 25 = .ok (.iload_n 0, 1) := by decide +kernel
theorem dJ6_bitCount_0f7a4_26 : decode cJ6_bitCount_0f7a4 26 = .ok (.iconst 4, 1) := by decide +kernel
theorem dJ6_bitCount_0f7a4_27 : decode cJ6_bitCount_0f7a4 27 = .ok (.iushr, 1) := by decide +kernel
theorem dJ6_bitCount_0f7a4_28 : decode cJ6_bitCount_0f7a4 28 = .ok (.iadd, 1) := by decide +kernel
theorem dJ6_bitCount_0f7a4_29 : decode cJ6_bitCount_0f7a4 29 = .ok (.ldc_w 267, 3) := by decide +kernel
theorem dJ6_bitCount_0f7a4_32 : decode cJ6_bitCount_0f7a4 32 = .ok (.iand, 1) := by decide +kernel
theorem dJ6_bitCount_0f7a4_33 : decode cJ6_bitCount_0f7a4 33 = .ok (.istore_n 0, 1) := by decide +kernel
theorem dJ6_bitCount_0f7a4_34 : decode cJ6_bitCount_0f7a4 34 = .ok (.iload_n 0, 1) := by decide +kernel
theorem dJ6_bitCount_0f7a4_35 : decode cJ6_bitCount_0f7a4 35 = .ok (.iload_n 0, 1) := by decide +kernel
theorem dJ6_bitCount_0f7a4_36 : decode cJ6_bitCount_0f7a4 36 = .ok (.bipush 8, 2) := by decide +kernel
theorem dJ6_bitCount_0f7a4_38 : decode cJ6_bitCount_0f7a4 38 = .ok (.iushr, 1) := by decide +kernel
theorem dJ6_bitCount_0f7a4_39 : decode cJ6_bitCount_0f7a4 39 = .ok (.iadd, 1) := by decide +kernel
theorem dJ6_bitCount_0f7a4_40 : decode cJ6_bitCount_0f7a4 40 = .ok (.istore_n 0, 1) := by decide +kernel
theorem dJ6_bitCount_0f7a4_41 : decode cJ6_bitCount_0f7a4 41 = .ok (.iload_n 0, 1) := by decide +kernel
theorem dJ6_bitCount_0f7a4_42 : decode cJ6_bitCount_0f7a4 42 = .ok (.iload_n 0, 1) := by decide +kernel
theorem dJ6_bitCount_0f7a4_43 : decode cJ6_bitCount_0f7a4 43 = .ok (.bipush 16, 2) := by decide +kernel
theorem dJ6_bitCount_0f7a4_45 : decode cJ6_bitCount_0f7a4 45 = .ok (.iushr, 1) := by decide +kernel
theorem dJ6_bitCount_0f7a4_46 : decode cJ6_bitCount_0f7a4 46 = .ok (.iadd, 1) := by decide +kernel
theorem dJ6_bitCount_0f7a4_47 : decode cJ6_bitCount_0f7a4 47 = .ok (.istore_n 0, 1) := by decide +kernel
theorem dJ6_bitCount_0f7a4_48 : decode cJ6_bitCount_0f7a4 48 = .ok (.iload_n 0, 1) := by decide +kernel
theorem dJ6_bitCount_0f7a4_49 : decode cJ6_bitCount_0f7a4 49 = .ok (.bipush 63, 2) := by decide +kernel
theorem dJ6_bitCount_0f7a4_51 : decode cJ6_bitCount_0f7a4 51 = .ok (.iand, 1) := by decide +kernel
theorem dJ6_bitCount_0f7a4_52 : decode cJ6_bitCount_0f7a4 52 = .ok (.ireturn, 1) := by decide +kernel
theorem dJ6_signum_0f7a4_0 : decode cJ6_signum_0f7a4 0 = .ok (.iload_n 0, 1) := by decide +kernel
theorem dJ6_signum_0f7a4_1 : decode cJ6_signum_0f7a4 1 = .ok (.bipush 31, 2) := by decide +kernel
theorem dJ6_signum_0f7a4_3 : decode cJ6_signum_0f7a4 3 = .ok (.ishr, 1) := by decide +kernel
theorem dJ6_signum_0f7a4_4 : decode cJ6_signum_0f7a4 4 = .ok (.iload_n 0, 1) := by decide +kernel
theorem dJ6_signum_0f7a4_5 : decode cJ6_signum_0f7a4 5 = .ok (.ineg, 1) := by decide +kernel
theorem dJ6_signum_0f7a4_6 : decode cJ6_signum_0f7a4 6 = .ok (.bipush 31, 2) := by decide +kernel
theorem dJ6_signum_0f7a4_8 : decode cJ6_signum_0f7a4 8 = .ok (.iushr, 1) := by decide +kernel
theorem dJ6_signum_0f7a4_9 : decode cJ6_signum_0f7a4 9 = .ok (.ior, 1) := by decide +kernel
theorem dJ6_signum_0f7a4_10 : decode cJ6_signum_0f7a4 10 = .ok (.ireturn, 1) := by decide +kernel
theorem dJ9_floorMod_7cf53_0 : decode cJ9_floorMod_7cf53 0 = .ok (.iload_n 0, 1) := by decide +kernel
theorem dJ9_floorMod_7cf53_1 : decode cJ9_floorMod_7cf53 1 = .ok (.iload_n 1, 1) := by decide +kernel
theorem dJ9_floorMod_7cf53_2 : decode cJ9_floorMod_7cf53 2 = .ok (.irem, 1) := by decide +kernel
theorem dJ9_floorMod_7cf53_3 : decode cJ9_floorMod_7cf53 3 = .ok (.istore_n 2, 1) := by decide +kernel
theorem dJ9_floorMod_7cf53_4 : decode cJ9_floorMod_7cf53 4 = .ok (.iload_n 0, 1) := by decide +kernel
theorem dJ9_floorMod_7cf53_5 : decode cJ9_floorMod_7cf53 5 = .ok (.iload_n 1, 1) := by decide +kernel
theorem dJ9_floorMod_7cf53_6 : decode cJ9_floorMod_7cf53 6 = .ok (.ixor, 1) := by decide +kernel
theorem dJ9_floorMod_7cf53_7 : decode cJ9_floorMod_7cf53 7 = .ok (.ifCond .ge 11, 3) := by decide +kernel
theorem dJ9_floorMod_7cf53_10 : decode cJ9_floorMod_7cf53 10 = .ok (.iload_n 2, 1) := by decide +kernel
theorem dJ9_floorMod_7cf53_11 : decode cJ9_floorMod_7cf53 11 = .ok (.ifCond .eq 7, 3) := by decide +kernel
theorem dJ9_floorMod_7cf53_14 : decode cJ9_floorMod_7cf53 14 = .ok (.iload_n 2, 1) := by decide +kernel
theorem dJ9_floorMod_7cf53_15 : decode cJ9_floorMod_7cf53 15 = .ok (.iload_n 1, 1) := by decide +kernel
theorem dJ9_floorMod_7cf53_16 : decode cJ9_floorMod_7cf53 16 = .ok (.iadd, 1) := by decide +kernel
theorem dJ9_floorMod_7cf53_17 : decode cJ9_floorMod_7cf53 17 = .ok (.ireturn, 1) := by decide +kernel
theorem dJ9_floorMod_7cf53_18 : decode cJ9_floorMod_7cf53 18 = .ok (.iload_n 2, 1) := by decide +kernel
theorem dJ9_floorMod_7cf53_19 : decode cJ9_floorMod_7cf53 19 = .ok (.ireturn, 1) := by decide +kernel
theorem dJ9_abs_0f7a4_0 : decode cJ9_abs_0f7a4 0 = .ok (.iload_n 0, 1) := by decide +kernel
theorem dJ9_abs_0f7a4_1 : decode cJ9_abs_0f7a4 1 = .ok (.ifCond .ge 8, 3) := by decide +kernel
theorem dJ9_abs_0f7a4_4 : decode cJ9_abs_0f7a4 4 = .ok (.iload_n 0, 1) := by decide +kernel
theorem dJ9_abs_0f7a4_5 : decode cJ9_abs_0f7a4 5 = .ok (.ineg, 1) := by decide +kernel
theorem dJ9_abs_0f7a4_6 : decode cJ9_abs_0f7a4 6 = .ok (.goto 4, 3) := by decide +kernel
theorem dJ9_abs_0f7a4_9 : decode cJ9_abs_0f7a4 9 = .ok (.iload_n 0, 1) := by decide +kernel
theorem dJ9_abs_0f7a4_10 : decode cJ9_abs_0f7a4 10 = .ok (.ireturn, 1) := by decide +kernel
theorem dJ9_max_7cf53_0 : decode cJ9_max_7cf53 0 = .ok (.iload_n 0, 1) := by decide +kernel
theorem dJ9_max_7cf53_1 : decode cJ9_max_7cf53 1 = .ok (.iload_n 1, 1) := by decide +kernel
theorem dJ9_max_7cf53_2 : decode cJ9_max_7cf53 2 = .ok (.if_icmp .lt 7, 3) := by decide +kernel
theorem dJ9_max_7cf53_5 : decode cJ9_max_7cf53 5 = .ok (.iload_n 0, 1) := by decide +kernel
theorem dJ9_max_7cf53_6 : decode cJ9_max_7cf53 6 = .ok (.goto 4, 3) := by decide +kernel
theorem dJ9_max_7cf53_9 : decode cJ9_max_7cf53 9 = .ok (.iload_n 1, 1) := by decide +kernel
theorem dJ9_max_7cf53_10 : decode cJ9_max_7cf53 10 = .ok (.ireturn, 1) := by decide +kernel
theorem dJ9_min_7cf53_0 : decode cJ9_min_7cf53 0 = .ok (.iload_n 0, 1) := by decide +kernel
theorem dJ9_min_7cf53_1 : decode cJ9_min_7cf53 1 = .ok (.iload_n 1, 1) := by decide +kernel
theorem dJ9_min_7cf53_2 : decode cJ9_min_7cf53 2 = .ok (.if_icmp .gt 7, 3) := by decide +kernel
theorem dJ9_min_7cf53_5 : decode cJ9_min_7cf53 5 = .ok (.iload_n 0, 1) := by decide +kernel
theorem dJ9_min_7cf53_6 : decode cJ9_min_7cf53 6 = .ok (.goto 4, 3) := by decide +kernel
theorem dJ9_min_7cf53_9 : decode cJ9_min_7cf53 9 = .ok (.iload_n 1, 1) := by decide +kernel
theorem dJ9_min_7cf53_10 : decode cJ9_min_7cf53 10 = .ok (.ireturn, 1) := by decide +kernel
theorem dJxa1e45_init_da8c8_0 : decode cJxa1e45_init_da8c8 0 = .ok (.aload_n 0, 1) := by decide +kernel
theorem dJxa1e45_init_da8c8_1 : decode cJxa1e45_init_da8c8 1 = .ok (.invokespecial 1, 3) := by decide +kernel
theorem dJxa1e45_init_da8c8_4 : decode cJxa1e45_init_da8c8 4 = .ok (.return_, 1) := by decide +kernel
theorem dJxc12de_init_da8c8_0 : decode cJxc12de_init_da8c8 0 = .ok (.aload_n 0, 1) := by decide +kernel
theorem dJxc12de_init_da8c8_1 : decode cJxc12de_init_da8c8 1 = .ok (.invokespecial 1, 3) := by decide +kernel
theorem dJxc12de_init_da8c8_4 : decode cJxc12de_init_da8c8 4 = .ok (.aload_n 0, 1) := by decide +kernel
theorem dJxc12de_init_da8c8_5 : decode cJxc12de_init_da8c8 5 = .ok (.iconst 0, 1) := by decide +kernel
theorem dJxc12de_init_da8c8_6 : decode cJxc12de_init_da8c8 6 = .ok (.putfield 7, 3) := by decide +kernel
theorem dJxc12de_init_da8c8_9 : decode cJxc12de_init_da8c8 9 = .ok (.return_, 1) := by decide +kernel
theorem dJx4a65c_init_da8c8_0 : decode cJx4a65c_init_da8c8 0 = .ok (.aload_n 0, 1) := by decide +kernel
theorem dJx4a65c_init_da8c8_1 : decode cJx4a65c_init_da8c8 1 = .ok (.invokespecial 1, 3) := by decide +kernel
theorem dJx4a65c_init_da8c8_4 : decode cJx4a65c_init_da8c8 4 = .ok (.aload_n 0, 1) := by decide +kernel
theorem dJx4a65c_init_da8c8_5 : decode cJx4a65c_init_da8c8 5 = .ok (.getstatic 39, 3) := by decide +kernel
theorem dJx4a65c_init_da8c8_8 : decode cJx4a65c_init_da8c8 8 = .ok (.putfield 9, 3) := by decide +kernel
theorem dJx4a65c_init_da8c8_11 : decode cJx4a65c_init_da8c8 11 = .ok (.return_, 1) := by decide +kernel
theorem dJx4a65c_grow_92f84_0 : decode cJx4a65c_grow_92f84 0 = .ok (.aload_n 0, 1) := by decide +kernel
theorem dJx4a65c_grow_92f84_1 : decode cJx4a65c_grow_92f84 1 = .ok (.getfield 9, 3) := by decide +kernel
theorem dJx4a65c_grow_92f84_4 : decode cJx4a65c_grow_92f84 4 = .ok (.arraylength, 1) := by decide +kernel
theorem dJx4a65c_grow_92f84_5 : decode cJx4a65c_grow_92f84 5 = .ok (.istore_n 2, 1) := by decide +kernel
theorem dJx4a65c_grow_92f84_6 : decode cJx4a65c_grow_92f84 6 = .ok (.iload_n 2, 1) := by decide +kernel
theorem dJx4a65c_grow_92f84_7 : decode cJx4a65c_grow_92f84 7 = .ok (.ifCond .gt 13, 3) := by decide +kernel
theorem dJx4a65c_grow_92f84_10 : decode cJx4a65c_grow_92f84 10 = .ok (.aload_n 0, 1) := by decide +kernel
theorem dJx4a65c_grow_92f84_11 : decode cJx4a65c_grow_92f84 11 = .ok (.getfield 9, 3) := by decide +kernel
theorem dJx4a65c_grow_92f84_14 : decode cJx4a65c_grow_92f84 14 = .ok (.getstatic 39, 3) := by decide +kernel
theorem dJx4a65c_grow_92f84_17 : decode cJx4a65c_grow_92f84 17 = .ok (.if_acmp .eq 28, 3) := by decide +kernel
theorem dJx4a65c_grow_92f84_20 : decode cJx4a65c_grow_92f84 20 = .ok (.iload_n 2, 1) := by decide +kernel
theorem dJx4a65c_grow_92f84_21 : decode cJx4a65c_grow_92f84 21 = .ok (.iload_n 1, 1) := by decide +kernel
theorem dJx4a65c_grow_92f84_22 : decode cJx4a65c_grow_92f84 22 = .ok (.iload_n 2, 1) := by decide +kernel
theorem dJx4a65c_grow_92f84_23 : decode cJx4a65c_grow_92f84 23 = .ok (.isub, 1) := by decide +kernel
theorem dJx4a65c_grow_92f84_24 : decode cJx4a65c_grow_92f84 24 = .ok (.iload_n 2, 1) := by decide +kernel
theorem dJx4a65c_grow_92f84_25 : decode cJx4a65c_grow_92f84 25 = .ok (.iconst 1, 1) := by decide +kernel
theorem dJx4a65c_grow_92f84_26 : decode cJx4a65c_grow_92f84 26 = .ok (.ishr, 1) := by decide +kernel
theorem dJx4a65c_grow_92f84_27 : decode cJx4a65c_grow_92f84 27 = .ok (.invokestatic 73, 3) := by decide +kernel
theorem dJx4a65c_grow_92f84_30 : decode cJx4a65c_grow_92f84 30 = .ok (.istore_n 3, 1) := by decide +kernel
theorem dJx4a65c_grow_92f84_31 : decode cJx4a65c_grow_92f84 31 = .ok (.aload_n 0, 1) := by decide +kernel
theorem dJx4a65c_grow_92f84_32 : decode cJx4a65c_grow_92f84 32 = .ok (.aload_n 0, 1) := by decide +kernel
theorem dJx4a65c_grow_92f84_33 : decode cJx4a65c_grow_92f84 33 = .ok (.getfield 9, 3) := by decide +kernel
theorem dJx4a65c_grow_92f84_36 : decode cJx4a65c_grow_92f84 36 = .ok (.iload_n 3, 1) := by decide +kernel
theorem dJx4a65c_grow_92f84_37 : decode cJx4a65c_grow_92f84 37 = .ok (.invokestatic 66, 3) := by decide +kernel
theorem dJx4a65c_grow_92f84_40 : decode cJx4a65c_grow_92f84 40 = .ok (.dup_x1, 1) := by decide +kernel
theorem dJx4a65c_grow_92f84_41 : decode cJx4a65c_grow_92f84 41 = .ok (.putfield 9, 3) := by decide +kernel
theorem dJx4a65c_grow_92f84_44 : decode cJx4a65c_grow_92f84 44 = .ok (.areturn, 1) := by decide +kernel
theorem dJx4a65c_grow_92f84_45 : decode cJx4a65c_grow_92f84 45 = .ok (.aload_n 0, 1) := by decide +kernel
theorem dJx4a65c_grow_92f84_46 : decode cJx4a65c_grow_92f84 46 = .ok (.bipush 10, 2) := by decide +kernel
theorem dJx4a65c_grow_92f84_48 : decode cJx4a65c_grow_92f84 48 = .ok (.iload_n 1, 1) := by decide +kernel
theorem dJx4a65c_grow_92f84_49 : decode cJx4a65c_grow_92f84 49 = .ok (.invokestatic 79, 3) := by decide +kernel
theorem dJx4a65c_grow_92f84_52 : decode cJx4a65c_grow_92f84 52 = .ok (.anewarray 7, 3) := by decide +kernel
theorem dJx4a65c_grow_92f84_55 : decode cJx4a65c_grow_92f84 55 = .ok (.dup_x1, 1) := by decide +kernel
theorem dJx4a65c_grow_92f84_56 : decode cJx4a65c_grow_92f84 56 = .ok (.putfield 9, 3) := by decide +kernel
theorem dJx4a65c_grow_92f84_59 : decode cJx4a65c_grow_92f84 59 = .ok (.areturn, 1) := by decide +kernel
theorem dJx4a65c_grow_d5877_0 : decode cJx4a65c_grow_d5877 0 = .ok (.aload_n 0, 1) := by decide +kernel
theorem dJx4a65c_grow_d5877_1 : decode cJx4a65c_grow_d5877 1 = .ok (.aload_n 0, 1) := by decide +kernel
theorem dJx4a65c_grow_d5877_2 : decode cJx4a65c_grow_d5877 2 = .ok (.getfield 48, 3) := by decide +kernel
theorem dJx4a65c_grow_d5877_5 : decode cJx4a65c_grow_d5877 5 = .ok (.iconst 1, 1) := by decide +kernel
theorem dJx4a65c_grow_d5877_6 : decode cJx4a65c_grow_d5877 6 = .ok (.iadd, 1) := by decide +kernel
theorem dJx4a65c_grow_d5877_7 : decode cJx4a65c_grow_d5877 7 = .ok (.invokevirtual 69, 3) := by decide +kernel
theorem dJx4a65c_grow_d5877_10 : decode cJx4a65c_grow_d5877 10 = .ok (.areturn, 1) := by decide +kernel
theorem dJx4a65c_size_8abf5_0 : decode cJx4a65c_size_8abf5 0 = .ok (.aload_n 0, 1) := by decide +kernel
theorem dJx4a65c_size_8abf5_1 : decode cJx4a65c_size_8abf5 1 = .ok (.getfield 48, 3) := by decide +kernel
theorem dJx4a65c_size_8abf5_4 : decode cJx4a65c_size_8abf5 4 = .ok (.ireturn, 1) := by decide +kernel
theorem dJx4a65c_elementData_915e3_0 : decode cJx4a65c_elementData_915e3 0 = .ok (.aload_n 0, 1) := by decide +kernel
theorem dJx4a65c_elementData_915e3_1 : decode cJx4a65c_elementData_915e3 1 = .ok (.getfield 9, 3) := by decide +kernel
theorem dJx4a65c_elementData_915e3_4 : decode cJx4a65c_elementData_915e3 4 = .ok (.iload_n 1, 1) := by decide +kernel
theorem dJx4a65c_elementData_915e3_5 : decode cJx4a65c_elementData_915e3 5 = .ok (.aaload, 1) := by decide +kernel
theorem dJx4a65c_elementData_915e3_6 : decode cJx4a65c_elementData_915e3 6 = .ok (.areturn, 1) := by decide +kernel
theorem dJx4a65c_get_915e3_0 : decode cJx4a65c_get_915e3 0 = .ok (.iload_n 1, 1) := by decide +kernel
theorem dJx4a65c_get_915e3_1 : decode cJx4a65c_get_915e3 1 = .ok (.aload_n 0, 1) := by decide +kernel
theorem dJx4a65c_get_915e3_2 : decode cJx4a65c_get_915e3 2 = .ok (.getfield 48, 3) := by decide +kernel
theorem dJx4a65c_get_915e3_5 : decode cJx4a65c_get_915e3 5 = .ok (.invokestatic 118, 3) := by decide +kernel
theorem dJx4a65c_get_915e3_8 : decode cJx4a65c_get_915e3 8 = .ok (.pop, 1) := by decide +kernel
theorem dJx4a65c_get_915e3_9 : decode cJx4a65c_get_915e3 9 = .ok (.aload_n 0, 1) := by decide +kernel
theorem dJx4a65c_get_915e3_10 : decode cJx4a65c_get_915e3 10 = .ok (.iload_n 1, 1) := by decide +kernel
theorem dJx4a65c_get_915e3_11 : decode cJx4a65c_get_915e3 11 = .ok (.invokevirtual 123, 3) := by decide +kernel
theorem dJx4a65c_get_915e3_14 : decode cJx4a65c_get_915e3 14 = .ok (.areturn, 1) := by decide +kernel
theorem dJx4a65c_add_72be8_0 : decode cJx4a65c_add_72be8 0 = .ok (.iload_n 3, 1) := by decide +kernel
theorem dJx4a65c_add_72be8_1 : decode cJx4a65c_add_72be8 1 = .ok (.aload_n 2, 1) := by decide +kernel
theorem dJx4a65c_add_72be8_2 : decode cJx4a65c_add_72be8 2 = .ok (.arraylength, 1) := by decide +kernel
theorem dJx4a65c_add_72be8_3 : decode cJx4a65c_add_72be8 3 = .ok (.if_icmp .ne 8, 3) := by decide +kernel
theorem dJx4a65c_add_72be8_6 : decode cJx4a65c_add_72be8 6 = .ok (.aload_n 0, 1) := by decide +kernel
theorem dJx4a65c_add_72be8_7 : decode cJx4a65c_add_72be8 7 = .ok (.invokevirtual 129, 3) := by decide +kernel
theorem dJx4a65c_add_72be8_10 : decode cJx4a65c_add_72be8 10 = .ok (.astore_n 2, 1) := by decide +kernel
theorem dJx4a65c_add_72be8_11 : decode cJx4a65c_add_72be8 11 = .ok (.aload_n 2, 1) := by decide +kernel
theorem dJx4a65c_add_72be8_12 : decode cJx4a65c_add_72be8 12 = .ok (.iload_n 3, 1) := by decide +kernel
theorem dJx4a65c_add_72be8_13 : decode cJx4a65c_add_72be8 13 = .ok (.aload_n 1, 1) := by decide +kernel
theorem dJx4a65c_add_72be8_14 : decode cJx4a65c_add_72be8 14 = .ok (.aastore, 1) := by decide +kernel
theorem dJx4a65c_add_72be8_15 : decode cJx4a65c_add_72be8 15 = .ok (.aload_n 0, 1) := by decide +kernel
theorem dJx4a65c_add_72be8_16 : decode cJx4a65c_add_72be8 16 = .ok (.iload_n 3, 1) := by decide +kernel
theorem dJx4a65c_add_72be8_17 : decode cJx4a65c_add_72be8 17 = .ok (.iconst 1, 1) := by decide +kernel
theorem dJx4a65c_add_72be8_18 : decode cJx4a65c_add_72be8 18 = .ok (.iadd, 1) := by decide +kernel
theorem dJx4a65c_add_72be8_19 : decode cJx4a65c_add_72be8 19 = .ok (.putfield 48, 3) := by decide +kernel
theorem dJx4a65c_add_72be8_22 : decode cJx4a65c_add_72be8 22 = .ok (.return_, 1) := by decide +kernel
theorem dJx4a65c_add_9ea2d_0 : decode cJx4a65c_add_9ea2d 0 = .ok (.aload_n 0, 1) := by decide +kernel
theorem dJx4a65c_add_9ea2d_1 : decode cJx4a65c_add_9ea2d 1 = .ok (.dup, 1) := by decide +kernel
theorem dJx4a65c_add_9ea2d_2 : decode cJx4a65c_add_9ea2d 2 = .ok (.getfield 63, 3) := by decide +kernel
theorem dJx4a65c_add_9ea2d_5 : decode cJx4a65c_add_9ea2d 5 = .ok (.iconst 1, 1) := by decide +kernel
theorem dJx4a65c_add_9ea2d_6 : decode cJx4a65c_add_9ea2d 6 = .ok (.iadd, 1) := by decide +kernel
end
section
theorem dJx4a65c_add_9ea2d_7 : decode cJx4a65c_add_9ea2d 7 = .ok (.putfield 63, 3) := by decide +kernel
theorem dJx4a65c_add_9ea2d_10 : decode cJx4a65c_add_9ea2d 10 = .ok (.aload_n 0, 1) := by decide +kernel
theorem dJx4a65c_add_9ea2d_11 : decode cJx4a65c_add_9ea2d 11 = .ok (.aload_n 1, 1) := by decide +kernel
theorem dJx4a65c_add_9ea2d_12 : decode cJx4a65c_add_9ea2d 12 = .ok (.aload_n 0, 1) := by decide +kernel
theorem dJx4a65c_add_9ea2d_13 : decode cJx4a65c_add_9ea2d 13 = .ok (.getfield 9, 3) := by decide +kernel
theorem dJx4a65c_add_9ea2d_16 : decode cJx4a65c_add_9ea2d 16 = .ok (.aload_n 0, 1) := by decide +kernel
theorem dJx4a65c_add_9ea2d_17 : decode cJx4a65c_add_9ea2d 17 = .ok (.getfield 48, 3) := by decide +kernel
theorem dJx4a65c_add_9ea2d_20 : decode cJx4a65c_add_9ea2d 20 = .ok (.invokevirtual 131, 3) := by decide +kernel
theorem dJx4a65c_add_9ea2d_23 : decode cJx4a65c_add_9ea2d 23 = .ok (.iconst 1, 1) := by decide +kernel
theorem dJx4a65c_add_9ea2d_24 : decode cJx4a65c_add_9ea2d 24 = .ok (.ireturn, 1) := by decide +kernel
theorem dJx4a65c_remove_915e3_0 : decode cJx4a65c_remove_915e3 0 = .ok (.iload_n 1, 1) := by decide +kernel
theorem dJx4a65c_remove_915e3_1 : decode cJx4a65c_remove_915e3 1 = .ok (.aload_n 0, 1) := by decide +kernel
theorem dJx4a65c_remove_915e3_2 : decode cJx4a65c_remove_915e3 2 = .ok (.getfield 48, 3) := by decide +kernel
theorem dJx4a65c_remove_915e3_5 : decode cJx4a65c_remove_915e3 5 = .ok (.invokestatic 118, 3) := by decide +kernel
theorem dJx4a65c_remove_915e3_8 : decode cJx4a65c_remove_915e3 8 = .ok (.pop, 1) := by decide +kernel
theorem dJx4a65c_remove_915e3_9 : decode cJx4a65c_remove_915e3 9 = .ok (.aload_n 0, 1) := by decide +kernel
theorem dJx4a65c_remove_915e3_10 : decode cJx4a65c_remove_915e3 10 = .ok (.getfield 9, 3) := by decide +kernel
theorem dJx4a65c_remove_915e3_13 : decode cJx4a65c_remove_915e3 13 = .ok (.astore_n 2, 1) := by decide +kernel
theorem dJx4a65c_remove_915e3_14 : decode cJx4a65c_remove_915e3 14 = .ok (.aload_n 2, 1) := by decide +kernel
theorem dJx4a65c_remove_915e3_15 : decode cJx4a65c_remove_915e3 15 = .ok (.iload_n 1, 1) := by decide +kernel
theorem dJx4a65c_remove_915e3_16 : decode cJx4a65c_remove_915e3 16 = .ok (.aaload, 1) := by decide +kernel
theorem dJx4a65c_remove_915e3_17 : decode cJx4a65c_remove_915e3 17 = .ok (.astore_n 3, 1) := by decide +kernel
theorem dJx4a65c_remove_915e3_18 : decode cJx4a65c_remove_915e3 18 = .ok (.aload_n 0, 1) := by decide +kernel
theorem dJx4a65c_remove_915e3_19 : decode cJx4a65c_remove_915e3 19 = .ok (.aload_n 2, 1) := by decide +kernel
theorem dJx4a65c_remove_915e3_20 : decode cJx4a65c_remove_915e3 20 = .ok (.iload_n 1, 1) := by decide +kernel
theorem dJx4a65c_remove_915e3_21 : decode cJx4a65c_remove_915e3 21 = .ok (.invokevirtual 144, 3) := by decide +kernel
theorem dJx4a65c_remove_915e3_24 : decode cJx4a65c_remove_915e3 24 = .ok (.aload_n 3, 1) := by decide +kernel
theorem dJx4a65c_remove_915e3_25 : decode cJx4a65c_remove_915e3 25 = .ok (.areturn, 1) := by decide +kernel
theorem dJx4a65c_fastRemove_b59b0_0 : decode cJx4a65c_fastRemove_b59b0 0 = .ok (.aload_n 0, 1) := by decide +kernel
theorem dJx4a65c_fastRemove_b59b0_1 : decode cJx4a65c_fastRemove_b59b0 1 = .ok (.dup, 1) := by decide +kernel
theorem dJx4a65c_fastRemove_b59b0_2 : decode cJx4a65c_fastRemove_b59b0 2 = .ok (.getfield 63, 3) := by decide +kernel
theorem dJx4a65c_fastRemove_b59b0_5 : decode cJx4a65c_fastRemove_b59b0 5 = .ok (.iconst 1, 1) := by decide +kernel
theorem dJx4a65c_fastRemove_b59b0_6 : decode cJx4a65c_fastRemove_b59b0 6 = .ok (.iadd, 1) := by decide +kernel
theorem dJx4a65c_fastRemove_b59b0_7 : decode cJx4a65c_fastRemove_b59b0 7 = .ok (.putfield 63, 3) := by decide +kernel
theorem dJx4a65c_fastRemove_b59b0_10 : decode cJx4a65c_fastRemove_b59b0 10 = .ok (.aload_n 0, 1) := by decide +kernel
theorem dJx4a65c_fastRemove_b59b0_11 : decode cJx4a65c_fastRemove_b59b0 11 = .ok (.getfield 48, 3) := by decide +kernel
theorem dJx4a65c_fastRemove_b59b0_14 : decode cJx4a65c_fastRemove_b59b0 14 = .ok (.iconst 1, 1) := by decide +kernel
theorem dJx4a65c_fastRemove_b59b0_15 : decode cJx4a65c_fastRemove_b59b0 15 = .ok (.isub, 1) := by decide +kernel
theorem dJx4a65c_fastRemove_b59b0_16 : decode cJx4a65c_fastRemove_b59b0 16 = .ok (.dup, 1) := by decide +kernel
theorem dJx4a65c_fastRemove_b59b0_17 : decode cJx4a65c_fastRemove_b59b0 17 = .ok (.istore_n 3, 1) := by decide +kernel
theorem dJx4a65c_fastRemove_b59b0_18 : decode cJx4a65c_fastRemove_b59b0 18 = .ok (.iload_n 2, 1) := by decide +kernel
theorem dJx4a65c_fastRemove_b59b0_19 : decode cJx4a65c_fastRemove_b59b0 19 = .ok (.if_icmp .le 15, 3) := by decide +kernel
theorem dJx4a65c_fastRemove_b59b0_22 : decode cJx4a65c_fastRemove_b59b0 22 = .ok (.aload_n 1, 1) := by decide +kernel
theorem dJx4a65c_fastRemove_b59b0_23 : decode cJx4a65c_fastRemove_b59b0 23 = .ok (.iload_n 2, 1) := by decide +kernel
theorem dJx4a65c_fastRemove_b59b0_24 : decode cJx4a65c_fastRemove_b59b0 24 = .ok (.iconst 1, 1) := by decide +kernel
theorem dJx4a65c_fastRemove_b59b0_25 : decode cJx4a65c_fastRemove_b59b0 25 = .ok (.iadd, 1) := by decide +kernel
theorem dJx4a65c_fastRemove_b59b0_26 : decode cJx4a65c_fastRemove_b59b0 26 = .ok (.aload_n 1, 1) := by decide +kernel
theorem dJx4a65c_fastRemove_b59b0_27 : decode cJx4a65c_fastRemove_b59b0 27 = .ok (.iload_n 2, 1) := by decide +kernel
theorem dJx4a65c_fastRemove_b59b0_28 : decode cJx4a65c_fastRemove_b59b0 28 = .ok (.iload_n 3, 1) := by decide +kernel
theorem dJx4a65c_fastRemove_b59b0_29 : decode cJx4a65c_fastRemove_b59b0 29 = .ok (.iload_n 2, 1) := by decide +kernel
theorem dJx4a65c_fastRemove_b59b0_30 : decode cJx4a65c_fastRemove_b59b0 30 = .ok (.isub, 1) := by decide +kernel
theorem dJx4a65c_fastRemove_b59b0_31 : decode cJx4a65c_fastRemove_b59b0 31 = .ok (.invokestatic 112, 3) := by decide +kernel
theorem dJx4a65c_fastRemove_b59b0_34 : decode cJx4a65c_fastRemove_b59b0 34 = .ok (.aload_n 1, 1) := by decide +kernel
theorem dJx4a65c_fastRemove_b59b0_35 : decode cJx4a65c_fastRemove_b59b0 35 = .ok (.aload_n 0, 1) := by decide +kernel
theorem dJx4a65c_fastRemove_b59b0_36 : decode cJx4a65c_fastRemove_b59b0 36 = .ok (.iload_n 3, 1) := by decide +kernel
theorem dJx4a65c_fastRemove_b59b0_37 : decode cJx4a65c_fastRemove_b59b0 37 = .ok (.dup_x1, 1) := by decide +kernel
theorem dJx4a65c_fastRemove_b59b0_38 : decode cJx4a65c_fastRemove_b59b0 38 = .ok (.putfield 48, 3) := by decide +kernel
theorem dJx4a65c_fastRemove_b59b0_41 : decode cJx4a65c_fastRemove_b59b0 41 = .ok (.aconst_null, 1) := by decide +kernel
theorem dJx4a65c_fastRemove_b59b0_42 : decode cJx4a65c_fastRemove_b59b0 42 = .ok (.aastore, 1) := by decide +kernel
theorem dJx4a65c_fastRemove_b59b0_43 : decode cJx4a65c_fastRemove_b59b0 43 = .ok (.return_, 1) := by decide +kernel
theorem dJx4a65c_clear_da8c8_0 : decode cJx4a65c_clear_da8c8 0 = .ok (.aload_n 0, 1) := by decide +kernel
theorem dJx4a65c_clear_da8c8_1 : decode cJx4a65c_clear_da8c8 1 = .ok (.dup, 1) := by decide +kernel
theorem dJx4a65c_clear_da8c8_2 : decode cJx4a65c_clear_da8c8 2 = .ok (.getfield 63, 3) := by decide +kernel
theorem dJx4a65c_clear_da8c8_5 : decode cJx4a65c_clear_da8c8 5 = .ok (.iconst 1, 1) := by decide +kernel
theorem dJx4a65c_clear_da8c8_6 : decode cJx4a65c_clear_da8c8 6 = .ok (.iadd, 1) := by decide +kernel
theorem dJx4a65c_clear_da8c8_7 : decode cJx4a65c_clear_da8c8 7 = .ok (.putfield 63, 3) := by decide +kernel
theorem dJx4a65c_clear_da8c8_10 : decode cJx4a65c_clear_da8c8 10 = .ok (.aload_n 0, 1) := by decide +kernel
theorem dJx4a65c_clear_da8c8_11 : decode cJx4a65c_clear_da8c8 11 = .ok (.getfield 9, 3) := by decide +kernel
theorem dJx4a65c_clear_da8c8_14 : decode cJx4a65c_clear_da8c8 14 = .ok (.astore_n 1, 1) := by decide +kernel
theorem dJx4a65c_clear_da8c8_15 : decode cJx4a65c_clear_da8c8 15 = .ok (.aload_n 0, 1) := by decide +kernel
theorem dJx4a65c_clear_da8c8_16 : decode cJx4a65c_clear_da8c8 16 = .ok (.getfield 48, 3) := by decide +kernel
theorem dJx4a65c_clear_da8c8_19 : decode cJx4a65c_clear_da8c8 19 = .ok (.istore_n 2, 1) := by decide +kernel
theorem dJx4a65c_clear_da8c8_20 : decode cJx4a65c_clear_da8c8 20 = .ok (.aload_n 0, 1) := by decide +kernel
theorem dJx4a65c_clear_da8c8_21 : decode cJx4a65c_clear_da8c8 21 = .ok (.iconst 0, 1) := by decide +kernel
theorem dJx4a65c_clear_da8c8_22 : decode cJx4a65c_clear_da8c8 22 = .ok (.dup_x1, 1) := by decide +kernel
theorem dJx4a65c_clear_da8c8_23 : decode cJx4a65c_clear_da8c8 23 = .ok (.putfield 48, 3) := by decide +kernel
theorem dJx4a65c_clear_da8c8_26 : decode cJx4a65c_clear_da8c8 26 = .ok (.istore_n 3, 1) := by decide +kernel
theorem dJx4a65c_clear_da8c8_27 : decode cJx4a65c_clear_da8c8 27 = .ok (.iload_n 3, 1) := by decide +kernel
theorem dJx4a65c_clear_da8c8_28 : decode cJx4a65c_clear_da8c8 28 = .ok (.iload_n 2, 1) := by decide +kernel
theorem dJx4a65c_clear_da8c8_29 : decode cJx4a65c_clear_da8c8 29 = .ok (.if_icmp .ge 13, 3) := by decide +kernel
theorem dJx4a65c_clear_da8c8_32 : decode cJx4a65c_clear_da8c8 32 = .ok (.aload_n 1, 1) := by decide +kernel
theorem dJx4a65c_clear_da8c8_33 : decode cJx4a65c_clear_da8c8 33 = .ok (.iload_n 3, 1) := by decide +kernel
theorem dJx4a65c_clear_da8c8_34 : decode cJx4a65c_clear_da8c8 34 = .ok (.aconst_null, 1) := by decide +kernel
theorem dJx4a65c_clear_da8c8_35 : decode cJx4a65c_clear_da8c8 35 = .ok (.aastore, 1) := by decide +kernel
theorem dJx4a65c_clear_da8c8_36 : decode cJx4a65c_clear_da8c8 36 = .ok (.iinc 3 1, 3) := by decide +kernel
theorem dJx4a65c_clear_da8c8_39 : decode cJx4a65c_clear_da8c8 39 = .ok (.goto (-12), 3) := by decide +kernel
theorem dJx4a65c_clear_da8c8_42 : decode cJx4a65c_clear_da8c8 42 = .ok (.return_, 1) := by decide +kernel
theorem dJ7_copyOf_1904c_0 : decode cJ7_copyOf_1904c 0 = .ok (.aload_n 0, 1) := by decide +kernel
theorem dJ7_copyOf_1904c_1 : decode cJ7_copyOf_1904c 1 = .ok (.iload_n 1, 1) := by decide +kernel
theorem dJ7_copyOf_1904c_2 : decode cJ7_copyOf_1904c 2 = .ok (.aload_n 0, 1) := by decide +kernel
theorem dJ7_copyOf_1904c_3 : decode cJ7_copyOf_1904c 3 = .ok (.invokevirtual 86, 3) := by decide +kernel
theorem dJ7_copyOf_1904c_6 : decode cJ7_copyOf_1904c 6 = .ok (.invokestatic 300, 3) := by decide +kernel
theorem dJ7_copyOf_1904c_9 : decode cJ7_copyOf_1904c 9 = .ok (.areturn, 1) := by decide +kernel
theorem dJ7_copyOf_6403c_0 : decode cJ7_copyOf_6403c 0 = .ok (.aload_n 2, 1) := by decide +kernel
theorem dJ7_copyOf_6403c_1 : decode cJ7_copyOf_6403c 1 = .ok (.ldc 110, 2) := by decide +kernel
theorem dJ7_copyOf_6403c_3 : decode cJ7_copyOf_6403c 3 = .ok (.if_acmp .ne 10, 3) := by decide +kernel
theorem dJ7_copyOf_6403c_6 : decode cJ7_copyOf_6403c 6 = .ok (.iload_n 1, 1) := by decide +kernel
theorem dJ7_copyOf_6403c_7 : decode cJ7_copyOf_6403c 7 = .ok (.anewarray 2, 3) := by decide +kernel
theorem dJ7_copyOf_6403c_10 : decode cJ7_copyOf_6403c 10 = .ok (.goto 14, 3) := by decide +kernel
theorem dJ7_copyOf_6403c_13 : decode cJ7_copyOf_6403c 13 = .ok (.aload_n 2, 1) := by decide +kernel
theorem dJ7_copyOf_6403c_14 : decode cJ7_copyOf_6403c 14 = .ok (.invokevirtual 90, 3) := by decide +kernel
theorem dJ7_copyOf_6403c_17 : decode cJ7_copyOf_6403c 17 = .ok (.iload_n 1, 1) := by decide +kernel
theorem dJ7_copyOf_6403c_18 : decode cJ7_copyOf_6403c 18 = .ok (.invokestatic 95, 3) := by decide +kernel
theorem dJ7_copyOf_6403c_21 : decode cJ7_copyOf_6403c 21 = .ok (.checkcast 110, 3) := by decide +kernel
theorem dJ7_copyOf_6403c_24 : decode cJ7_copyOf_6403c 24 = .ok (.astore_n 3, 1) := by decide +kernel
theorem dJ7_copyOf_6403c_25 : decode cJ7_copyOf_6403c 25 = .ok (.aload_n 0, 1) := by decide +kernel
theorem dJ7_copyOf_6403c_26 : decode cJ7_copyOf_6403c 26 = .ok (.iconst 0, 1) := by decide +kernel
theorem dJ7_copyOf_6403c_27 : decode cJ7_copyOf_6403c 27 = .ok (.aload_n 3, 1) := by decide +kernel
theorem dJ7_copyOf_6403c_28 : decode cJ7_copyOf_6403c 28 = .ok (.iconst 0, 1) := by decide +kernel
theorem dJ7_copyOf_6403c_29 : decode cJ7_copyOf_6403c 29 = .ok (.aload_n 0, 1) := by decide +kernel
theorem dJ7_copyOf_6403c_30 : decode cJ7_copyOf_6403c 30 = .ok (.arraylength, 1) := by decide +kernel
theorem dJ7_copyOf_6403c_31 : decode cJ7_copyOf_6403c 31 = .ok (.iload_n 1, 1) := by decide +kernel
theorem dJ7_copyOf_6403c_32 : decode cJ7_copyOf_6403c 32 = .ok (.invokestatic 304, 3) := by decide +kernel
theorem dJ7_copyOf_6403c_35 : decode cJ7_copyOf_6403c 35 = .ok (.invokestatic 150, 3) := by decide +kernel
theorem dJ7_copyOf_6403c_38 : decode cJ7_copyOf_6403c 38 = .ok (.aload_n 3, 1) := by decide +kernel
theorem dJ7_copyOf_6403c_39 : decode cJ7_copyOf_6403c 39 = .ok (.areturn, 1) := by decide +kernel
theorem dJ15_checkIndex_7cf53_0 : decode cJ15_checkIndex_7cf53 0 = .ok (.iload_n 0, 1) := by decide +kernel
theorem dJ15_checkIndex_7cf53_1 : decode cJ15_checkIndex_7cf53 1 = .ok (.iload_n 1, 1) := by decide +kernel
theorem dJ15_checkIndex_7cf53_2 : decode cJ15_checkIndex_7cf53 2 = .ok (.aconst_null, 1) := by decide +kernel
theorem dJ15_checkIndex_7cf53_3 : decode cJ15_checkIndex_7cf53 3 = .ok (.invokestatic 105, 3) := by decide +kernel
theorem dJ15_checkIndex_7cf53_6 : decode cJ15_checkIndex_7cf53 6 = .ok (.ireturn, 1) := by decide +kernel
theorem dJ8_newLength_cabcc_0 : decode cJ8_newLength_cabcc 0 = .ok (.iload_n 0, 1) := by decide +kernel
theorem dJ8_newLength_cabcc_1 : decode cJ8_newLength_cabcc 1 = .ok (.iload_n 1, 1) := by decide +kernel
theorem dJ8_newLength_cabcc_2 : decode cJ8_newLength_cabcc 2 = .ok (.iload_n 2, 1) := by decide +kernel
theorem dJ8_newLength_cabcc_3 : decode cJ8_newLength_cabcc 3 = .ok (.invokestatic 194, 3) := by decide +kernel
theorem dJ8_newLength_cabcc_6 : decode cJ8_newLength_cabcc 6 = .ok (.iadd, 1) := by decide +kernel
theorem dJ8_newLength_cabcc_7 : decode cJ8_newLength_cabcc 7 = .ok (.istore_n 3, 1) := by decide +kernel
theorem dJ8_newLength_cabcc_8 : decode cJ8_newLength_cabcc 8 = .ok (.iconst 0, 1) := by decide +kernel
theorem dJ8_newLength_cabcc_9 : decode cJ8_newLength_cabcc 9 = .ok (.iload_n 3, 1) := by decide +kernel
theorem dJ8_newLength_cabcc_10 : decode cJ8_newLength_cabcc 10 = .ok (.if_icmp .ge 11, 3) := by decide +kernel
theorem dJ8_newLength_cabcc_13 : decode cJ8_newLength_cabcc 13 = .ok (.iload_n 3, 1) := by decide +kernel
theorem dJ8_newLength_cabcc_14 : decode cJ8_newLength_cabcc 14 = .ok (.ldc 200, 2) := by decide +kernel
theorem dJ8_newLength_cabcc_16 : decode cJ8_newLength_cabcc 16 = .ok (.if_icmp .gt 5, 3) := by decide +kernel
theorem dJ8_newLength_cabcc_19 : decode cJ8_newLength_cabcc 19 = .ok (.iload_n 3, 1) := by decide +kernel
theorem dJ8_newLength_cabcc_20 : decode cJ8_newLength_cabcc 20 = .ok (.ireturn, 1) := by decide +kernel
theorem dJ8_newLength_cabcc_21 : decode cJ8_newLength_cabcc 21 = .ok (.iload_n 0, 1) := by decide +kernel
theorem dJ8_newLength_cabcc_22 : decode cJ8_newLength_cabcc 22 = .ok (.iload_n 1, 1) := by decide +kernel
theorem dJ8_newLength_cabcc_23 : decode cJ8_newLength_cabcc 23 = .ok (.invokestatic 201, 3) := by decide +kernel
theorem dJ8_newLength_cabcc_26 : decode cJ8_newLength_cabcc 26 = .ok (.ireturn, 1) := by decide +kernel
theorem dJ8_hugeLength_7cf53_0 : decode cJ8_hugeLength_7cf53 0 = .ok (.iload_n 0, 1) := by decide +kernel
theorem dJ8_hugeLength_7cf53_1 : decode cJ8_hugeLength_7cf53 1 = .ok (.iload_n 1, 1) := by decide +kernel
theorem dJ8_hugeLength_7cf53_2 : decode cJ8_hugeLength_7cf53 2 = .ok (.iadd, 1) := by decide +kernel
theorem dJ8_hugeLength_7cf53_3 : decode cJ8_hugeLength_7cf53 3 = .ok (.istore_n 2, 1) := by decide +kernel
theorem dJ8_hugeLength_7cf53_4 : decode cJ8_hugeLength_7cf53 4 = .ok (.iload_n 2, 1) := by decide +kernel
theorem dJ8_hugeLength_7cf53_5 : decode cJ8_hugeLength_7cf53 5 = .ok (.ifCond .ge 44, 3) := by decide +kernel
theorem dJ8_hugeLength_7cf53_8 : decode cJ8_hugeLength_7cf53 8 = .ok (.new 204, 3) := by decide +kernel
theorem dJ8_hugeLength_7cf53_11 : decode cJ8_hugeLength_7cf53 11 = .ok (.dup, 1) := by decide +kernel
theorem dJ8_hugeLength_7cf53_12 : decode cJ8_hugeLength_7cf53 12 = .ok (.new 89, 3) := by decide +kernel
theorem dJ8_hugeLength_7cf53_15 : decode cJ8_hugeLength_7cf53 15 = .ok (.dup, 1) := by decide +kernel
theorem dJ8_hugeLength_7cf53_16 : decode cJ8_hugeLength_7cf53 16 = .ok (.invokespecial 91, 3) := by decide +kernel
theorem dJ8_hugeLength_7cf53_19 : decode cJ8_hugeLength_7cf53 19 = .ok (.ldc 206, 2) := by decide +kernel
theorem dJ8_hugeLength_7cf53_21 : decode cJ8_hugeLength_7cf53 21 = .ok (.invokevirtual 94, 3) := by decide +kernel
theorem dJ8_hugeLength_7cf53_24 : decode cJ8_hugeLength_7cf53 24 = .ok (.iload_n 0, 1) := by decide +kernel
theorem dJ8_hugeLength_7cf53_25 : decode cJ8_hugeLength_7cf53 25 = .ok (.invokevirtual 98, 3) := by decide +kernel
theorem dJ8_hugeLength_7cf53_28 : decode cJ8_hugeLength_7cf53 28 = .ok (.ldc 208, 2) := by decide +kernel
theorem dJ8_hugeLength_7cf53_30 : decode cJ8_hugeLength_7cf53 30 = .ok (.invokevirtual 94, 3) := by decide +kernel
theorem dJ8_hugeLength_7cf53_33 : decode cJ8_hugeLength_7cf53 33 = .ok (.iload_n 1, 1) := by decide +kernel
theorem dJ8_hugeLength_7cf53_34 : decode cJ8_hugeLength_7cf53 34 = .ok (.invokevirtual 98, 3) := by decide +kernel
theorem dJ8_hugeLength_7cf53_37 : decode cJ8_hugeLength_7cf53 37 = .ok (.ldc 210, 2) := by decide +kernel
theorem dJ8_hugeLength_7cf53_39 : decode cJ8_hugeLength_7cf53 39 = .ok (.invokevirtual 94, 3) := by decide +kernel
theorem dJ8_hugeLength_7cf53_42 : decode cJ8_hugeLength_7cf53 42 = .ok (.invokevirtual 101, 3) := by decide +kernel
theorem dJ8_hugeLength_7cf53_45 : decode cJ8_hugeLength_7cf53 45 = .ok (.invokespecial 212, 3) := by decide +kernel
theorem dJ8_hugeLength_7cf53_48 : decode cJ8_hugeLength_7cf53 48 = .ok (.athrow, 1) := by decide +kernel
theorem dJ8_hugeLength_7cf53_49 : decode cJ8_hugeLength_7cf53 49 = .ok (.iload_n 2, 1) := by decide +kernel
theorem dJ8_hugeLength_7cf53_50 : decode cJ8_hugeLength_7cf53 50 = .ok (.ldc 200, 2) := by decide +kernel
theorem dJ8_hugeLength_7cf53_52 : decode cJ8_hugeLength_7cf53 52 = .ok (.if_icmp .gt 6, 3) := by decide +kernel
theorem dJ8_hugeLength_7cf53_55 : decode cJ8_hugeLength_7cf53 55 = .ok (.ldc 200, 2) := by decide +kernel
theorem dJ8_hugeLength_7cf53_57 : decode cJ8_hugeLength_7cf53 57 = .ok (.ireturn, 1) := by decide +kernel
theorem dJ8_hugeLength_7cf53_58 : decode cJ8_hugeLength_7cf53 58 = .ok (.iload_n 2, 1) := by decide +kernel
theorem dJ8_hugeLength_7cf53_59 : decode cJ8_hugeLength_7cf53 59 = .ok (.ireturn, 1) := by decide +kernel
theorem dJ3_checkIndex_8e157_0 : decode cJ3_checkIndex_8e157 0 = .ok (.iload_n 0, 1) := by decide +kernel
theorem dJ3_checkIndex_8e157_1 : decode cJ3_checkIndex_8e157 1 = .ok (.ifCond .lt 8, 3) := by decide +kernel
theorem dJ3_checkIndex_8e157_4 : decode cJ3_checkIndex_8e157 4 = .ok (.iload_n 0, 1) := by decide +kernel
theorem dJ3_checkIndex_8e157_5 : decode cJ3_checkIndex_8e157 5 = .ok (.iload_n 1, 1) := by decide +kernel
theorem dJ3_checkIndex_8e157_6 : decode cJ3_checkIndex_8e157 6 = .ok (.if_icmp .lt 10, 3) := by decide +kernel
theorem dJ3_checkIndex_8e157_9 : decode cJ3_checkIndex_8e157 9 = .ok (.aload_n 2, 1) := by decide +kernel
theorem dJ3_checkIndex_8e157_10 : decode cJ3_checkIndex_8e157 10 = .ok (.iload_n 0, 1) := by decide +kernel
theorem dJ3_checkIndex_8e157_11 : decode cJ3_checkIndex_8e157 11 = .ok (.iload_n 1, 1) := by decide +kernel
theorem dJ3_checkIndex_8e157_12 : decode cJ3_checkIndex_8e157 12 = .ok (.invokestatic 95, 3) := by decide +kernel
theorem dJ3_checkIndex_8e157_15 : decode cJ3_checkIndex_8e157 15 = .ok (.athrow, 1) := by decide +kernel
theorem dJ3_checkIndex_8e157_16 : decode cJ3_checkIndex_8e157 16 = .ok (.iload_n 0, 1) := by decide +kernel
theorem dJ3_checkIndex_8e157_17 : decode cJ3_checkIndex_8e157 17 = .ok (.ireturn, 1) := by decide +kernel
theorem dL_beginWind_0 : decode cL_beginWind 0 = .ok (.aload 4, 2) := by decide +kernel
theorem dL_beginWind_2 : decode cL_beginWind 2 = .ok (.iconst 0, 1) := by decide +kernel
theorem dL_beginWind_3 : decode cL_beginWind 3 = .ok (.aload_n 0, 1) := by decide +kernel
theorem dL_beginWind_4 : decode cL_beginWind 4 = .ok (.iload_n 1, 1) := by decide +kernel
theorem dL_beginWind_5 : decode cL_beginWind 5 = .ok (.iload_n 2, 1) := by decide +kernel
theorem dL_beginWind_6 : decode cL_beginWind 6 = .ok (.iload_n 3, 1) := by decide +kernel
theorem dL_beginWind_7 : decode cL_beginWind 7 = .ok (.invokevirtual 7, 3) := by decide +kernel
theorem dL_beginWind_10 : decode cL_beginWind 10 = .ok (.i2l, 1) := by decide +kernel
theorem dL_beginWind_11 : decode cL_beginWind 11 = .ok (.lastore, 1) := by decide +kernel
theorem dL_beginWind_12 : decode cL_beginWind 12 = .ok (.goto 7, 3) := by decide +kernel
theorem dL_beginWind_15 : decode cL_beginWind 15 = .ok (.astore 5, 2) := by decide +kernel
theorem dL_beginWind_17 : decode cL_beginWind 17 = .ok (.iconst 1, 1) := by decide +kernel
theorem dL_beginWind_18 : decode cL_beginWind 18 = .ok (.ireturn, 1) := by decide +kernel
theorem dL_beginWind_19 : decode cL_beginWind 19 = .ok (.iconst 0, 1) := by decide +kernel
theorem dL_beginWind_20 : decode cL_beginWind 20 = .ok (.ireturn, 1) := by decide +kernel
theorem dL_addWind_0 : decode cL_addWind 0 = .ok (.aload 4, 2) := by decide +kernel
theorem dL_addWind_2 : decode cL_addWind 2 = .ok (.iconst 0, 1) := by decide +kernel
theorem dL_addWind_3 : decode cL_addWind 3 = .ok (.aload_n 0, 1) := by decide +kernel
theorem dL_addWind_4 : decode cL_addWind 4 = .ok (.iload_n 1, 1) := by decide +kernel
theorem dL_addWind_5 : decode cL_addWind 5 = .ok (.iload_n 2, 1) := by decide +kernel
theorem dL_addWind_6 : decode cL_addWind 6 = .ok (.iload_n 3, 1) := by decide +kernel
theorem dL_addWind_7 : decode cL_addWind 7 = .ok (.invokevirtual 15, 3) := by decide +kernel
theorem dL_addWind_10 : decode cL_addWind 10 = .ok (.i2l, 1) := by decide +kernel
theorem dL_addWind_11 : decode cL_addWind 11 = .ok (.lastore, 1) := by decide +kernel
theorem dL_addWind_12 : decode cL_addWind 12 = .ok (.goto 11, 3) := by decide +kernel
theorem dL_addWind_15 : decode cL_addWind 15 = .ok (.astore 5, 2) := by decide +kernel
theorem dL_addWind_17 : decode cL_addWind 17 = .ok (.iconst 1, 1) := by decide +kernel
theorem dL_addWind_18 : decode cL_addWind 18 = .ok (.ireturn, 1) := by decide +kernel
theorem dL_addWind_19 : decode cL_addWind 19 = .ok (.astore 5, 2) := by decide +kernel
theorem dL_addWind_21 : decode cL_addWind 21 = .ok (.iconst 2, 1) := by decide +kernel
theorem dL_addWind_22 : decode cL_addWind 22 = .ok (.ireturn, 1) := by decide +kernel
theorem dL_addWind_23 : decode cL_addWind 23 = .ok (.iconst 0, 1) := by decide +kernel
theorem dL_addWind_24 : decode cL_addWind 24 = .ok (.ireturn, 1) := by decide +kernel
theorem dL_wind_0 : decode cL_wind 0 = .ok (.aload_n 3, 1) := by decide +kernel
theorem dL_wind_1 : decode cL_wind 1 = .ok (.iconst 0, 1) := by decide +kernel
theorem dL_wind_2 : decode cL_wind 2 = .ok (.aload_n 0, 1) := by decide +kernel
theorem dL_wind_3 : decode cL_wind 3 = .ok (.iload_n 1, 1) := by decide +kernel
theorem dL_wind_4 : decode cL_wind 4 = .ok (.iload_n 2, 1) := by decide +kernel
theorem dL_wind_5 : decode cL_wind 5 = .ok (.invokevirtual 20, 3) := by decide +kernel
theorem dL_wind_8 : decode cL_wind 8 = .ok (.i2l, 1) := by decide +kernel
theorem dL_wind_9 : decode cL_wind 9 = .ok (.lastore, 1) := by decide +kernel
theorem dL_wind_10 : decode cL_wind 10 = .ok (.goto 11, 3) := by decide +kernel
theorem dL_wind_13 : decode cL_wind 13 = .ok (.astore 4, 2) := by decide +kernel
theorem dL_wind_15 : decode cL_wind 15 = .ok (.iconst 1, 1) := by decide +kernel
theorem dL_wind_16 : decode cL_wind 16 = .ok (.ireturn, 1) := by decide +kernel
theorem dL_wind_17 : decode cL_wind 17 = .ok (.astore 4, 2) := by decide +kernel
theorem dL_wind_19 : decode cL_wind 19 = .ok (.iconst 2, 1) := by decide +kernel
theorem dL_wind_20 : decode cL_wind 20 = .ok (.ireturn, 1) := by decide +kernel
theorem dL_wind_21 : decode cL_wind 21 = .ok (.iconst 0, 1) := by decide +kernel
theorem dL_wind_22 : decode cL_wind 22 = .ok (.ireturn, 1) := by decide +kernel
theorem dL_setUp_0 : decode cL_setUp 0 = .ok (.aload 7, 2) := by decide +kernel
theorem dL_setUp_2 : decode cL_setUp 2 = .ok (.iconst 0, 1) := by decide +kernel
theorem dL_setUp_3 : decode cL_setUp 3 = .ok (.aload_n 0, 1) := by decide +kernel
theorem dL_setUp_4 : decode cL_setUp 4 = .ok (.iload_n 1, 1) := by decide +kernel
theorem dL_setUp_5 : decode cL_setUp 5 = .ok (.iload_n 2, 1) := by decide +kernel
theorem dL_setUp_6 : decode cL_setUp 6 = .ok (.iload_n 3, 1) := by decide +kernel
theorem dL_setUp_7 : decode cL_setUp 7 = .ok (.iload 4, 2) := by decide +kernel
theorem dL_setUp_9 : decode cL_setUp 9 = .ok (.iload 5, 2) := by decide +kernel
theorem dL_setUp_11 : decode cL_setUp 11 = .ok (.iload 6, 2) := by decide +kernel
theorem dL_setUp_13 : decode cL_setUp 13 = .ok (.invokevirtual 26, 3) := by decide +kernel
theorem dL_setUp_16 : decode cL_setUp 16 = .ok (.i2l, 1) := by decide +kernel
theorem dL_setUp_17 : decode cL_setUp 17 = .ok (.lastore, 1) := by decide +kernel
theorem dL_setUp_18 : decode cL_setUp 18 = .ok (.goto 11, 3) := by decide +kernel
theorem dL_setUp_21 : decode cL_setUp 21 = .ok (.astore 8, 2) := by decide +kernel
theorem dL_setUp_23 : decode cL_setUp 23 = .ok (.iconst 1, 1) := by decide +kernel
theorem dL_setUp_24 : decode cL_setUp 24 = .ok (.ireturn, 1) := by decide +kernel
theorem dL_setUp_25 : decode cL_setUp 25 = .ok (.astore 8, 2) := by decide +kernel
theorem dL_setUp_27 : decode cL_setUp 27 = .ok (.iconst 2, 1) := by decide +kernel
theorem dL_setUp_28 : decode cL_setUp 28 = .ok (.ireturn, 1) := by decide +kernel
theorem dL_setUp_29 : decode cL_setUp 29 = .ok (.iconst 0, 1) := by decide +kernel
theorem dL_setUp_30 : decode cL_setUp 30 = .ok (.ireturn, 1) := by decide +kernel
theorem dL_oil_0 : decode cL_oil 0 = .ok (.aload_n 2, 1) := by decide +kernel
theorem dL_oil_1 : decode cL_oil 1 = .ok (.iconst 0, 1) := by decide +kernel
theorem dL_oil_2 : decode cL_oil 2 = .ok (.aload_n 0, 1) := by decide +kernel
theorem dL_oil_3 : decode cL_oil 3 = .ok (.iload_n 1, 1) := by decide +kernel
theorem dL_oil_4 : decode cL_oil 4 = .ok (.invokevirtual 30, 3) := by decide +kernel
theorem dL_oil_7 : decode cL_oil 7 = .ok (.i2l, 1) := by decide +kernel
theorem dL_oil_8 : decode cL_oil 8 = .ok (.lastore, 1) := by decide +kernel
theorem dL_oil_9 : decode cL_oil 9 = .ok (.goto 6, 3) := by decide +kernel
theorem dL_oil_12 : decode cL_oil 12 = .ok (.astore_n 3, 1) := by decide +kernel
theorem dL_oil_13 : decode cL_oil 13 = .ok (.iconst 1, 1) := by decide +kernel
theorem dL_oil_14 : decode cL_oil 14 = .ok (.ireturn, 1) := by decide +kernel
theorem dL_oil_15 : decode cL_oil 15 = .ok (.iconst 0, 1) := by decide +kernel
theorem dL_oil_16 : decode cL_oil 16 = .ok (.ireturn, 1) := by decide +kernel
theorem dL_turn_0 : decode cL_turn 0 = .ok (.aload_n 3, 1) := by decide +kernel
theorem dL_turn_1 : decode cL_turn 1 = .ok (.iconst 0, 1) := by decide +kernel
theorem dL_turn_2 : decode cL_turn 2 = .ok (.aload_n 0, 1) := by decide +kernel
theorem dL_turn_3 : decode cL_turn 3 = .ok (.iload_n 1, 1) := by decide +kernel
theorem dL_turn_4 : decode cL_turn 4 = .ok (.iload_n 2, 1) := by decide +kernel
theorem dL_turn_5 : decode cL_turn 5 = .ok (.invokevirtual 34, 3) := by decide +kernel
theorem dL_turn_8 : decode cL_turn 8 = .ok (.i2l, 1) := by decide +kernel
theorem dL_turn_9 : decode cL_turn 9 = .ok (.lastore, 1) := by decide +kernel
theorem dL_turn_10 : decode cL_turn 10 = .ok (.goto 15, 3) := by decide +kernel
theorem dL_turn_13 : decode cL_turn 13 = .ok (.astore 4, 2) := by decide +kernel
theorem dL_turn_15 : decode cL_turn 15 = .ok (.iconst 1, 1) := by decide +kernel
theorem dL_turn_16 : decode cL_turn 16 = .ok (.ireturn, 1) := by decide +kernel
theorem dL_turn_17 : decode cL_turn 17 = .ok (.astore 4, 2) := by decide +kernel
theorem dL_turn_19 : decode cL_turn 19 = .ok (.iconst 2, 1) := by decide +kernel
theorem dL_turn_20 : decode cL_turn 20 = .ok (.ireturn, 1) := by decide +kernel
theorem dL_turn_21 : decode cL_turn 21 = .ok (.astore 4, 2) := by decide +kernel
theorem dL_turn_23 : decode cL_turn 23 = .ok (.iconst 3, 1) := by decide +kernel
theorem dL_turn_24 : decode cL_turn 24 = .ok (.ireturn, 1) := by decide +kernel
theorem dL_turn_25 : decode cL_turn 25 = .ok (.iconst 0, 1) := by decide +kernel
theorem dL_turn_26 : decode cL_turn 26 = .ok (.ireturn, 1) := by decide +kernel
theorem dL_vane_0 : decode cL_vane 0 = .ok (.aload_n 3, 1) := by decide +kernel
theorem dL_vane_1 : decode cL_vane 1 = .ok (.iconst 0, 1) := by decide +kernel
theorem dL_vane_2 : decode cL_vane 2 = .ok (.aload_n 0, 1) := by decide +kernel
theorem dL_vane_3 : decode cL_vane 3 = .ok (.iload_n 1, 1) := by decide +kernel
theorem dL_vane_4 : decode cL_vane 4 = .ok (.iload_n 2, 1) := by decide +kernel
theorem dL_vane_5 : decode cL_vane 5 = .ok (.invokevirtual 37, 3) := by decide +kernel
theorem dL_vane_8 : decode cL_vane 8 = .ok (.i2l, 1) := by decide +kernel
theorem dL_vane_9 : decode cL_vane 9 = .ok (.lastore, 1) := by decide +kernel
theorem dL_vane_10 : decode cL_vane 10 = .ok (.goto 7, 3) := by decide +kernel
theorem dL_vane_13 : decode cL_vane 13 = .ok (.astore 4, 2) := by decide +kernel
theorem dL_vane_15 : decode cL_vane 15 = .ok (.iconst 1, 1) := by decide +kernel
theorem dL_vane_16 : decode cL_vane 16 = .ok (.ireturn, 1) := by decide +kernel
theorem dL_vane_17 : decode cL_vane 17 = .ok (.iconst 0, 1) := by decide +kernel
theorem dL_vane_18 : decode cL_vane 18 = .ok (.ireturn, 1) := by decide +kernel
theorem dL_difference_0 : decode cL_difference 0 = .ok (.aload_n 3, 1) := by decide +kernel
theorem dL_difference_1 : decode cL_difference 1 = .ok (.iconst 0, 1) := by decide +kernel
theorem dL_difference_2 : decode cL_difference 2 = .ok (.aload_n 0, 1) := by decide +kernel
theorem dL_difference_3 : decode cL_difference 3 = .ok (.iload_n 1, 1) := by decide +kernel
theorem dL_difference_4 : decode cL_difference 4 = .ok (.iload_n 2, 1) := by decide +kernel
theorem dL_difference_5 : decode cL_difference 5 = .ok (.invokevirtual 40, 3) := by decide +kernel
theorem dL_difference_8 : decode cL_difference 8 = .ok (.i2l, 1) := by decide +kernel
theorem dL_difference_9 : decode cL_difference 9 = .ok (.lastore, 1) := by decide +kernel
theorem dL_difference_10 : decode cL_difference 10 = .ok (.goto 7, 3) := by decide +kernel
theorem dL_difference_13 : decode cL_difference 13 = .ok (.astore 4, 2) := by decide +kernel
theorem dL_difference_15 : decode cL_difference 15 = .ok (.iconst 1, 1) := by decide +kernel
theorem dL_difference_16 : decode cL_difference 16 = .ok (.ireturn, 1) := by decide +kernel
theorem dL_difference_17 : decode cL_difference 17 = .ok (.iconst 0, 1) := by decide +kernel
theorem dL_difference_18 : decode cL_difference 18 = .ok (.ireturn, 1) := by decide +kernel
theorem dL_move_0 : decode cL_move 0 = .ok (.aload 5, 2) := by decide +kernel
theorem dL_move_2 : decode cL_move 2 = .ok (.iconst 0, 1) := by decide +kernel
theorem dL_move_3 : decode cL_move 3 = .ok (.aload_n 0, 1) := by decide +kernel
theorem dL_move_4 : decode cL_move 4 = .ok (.iload_n 1, 1) := by decide +kernel
theorem dL_move_5 : decode cL_move 5 = .ok (.iload_n 2, 1) := by decide +kernel
theorem dL_move_6 : decode cL_move 6 = .ok (.iload_n 3, 1) := by decide +kernel
theorem dL_move_7 : decode cL_move 7 = .ok (.iload 4, 2) := by decide +kernel
theorem dL_move_9 : decode cL_move 9 = .ok (.invokevirtual 43, 3) := by decide +kernel
theorem dL_move_12 : decode cL_move 12 = .ok (.i2l, 1) := by decide +kernel
theorem dL_move_13 : decode cL_move 13 = .ok (.lastore, 1) := by decide +kernel
theorem dL_move_14 : decode cL_move 14 = .ok (.goto 11, 3) := by decide +kernel
theorem dL_move_17 : decode cL_move 17 = .ok (.astore 6, 2) := by decide +kernel
theorem dL_move_19 : decode cL_move 19 = .ok (.iconst 1, 1) := by decide +kernel
theorem dL_move_20 : decode cL_move 20 = .ok (.ireturn, 1) := by decide +kernel
theorem dL_move_21 : decode cL_move 21 = .ok (.astore 6, 2) := by decide +kernel
theorem dL_move_23 : decode cL_move 23 = .ok (.iconst 2, 1) := by decide +kernel
theorem dL_move_24 : decode cL_move 24 = .ok (.ireturn, 1) := by decide +kernel
theorem dL_move_25 : decode cL_move 25 = .ok (.iconst 0, 1) := by decide +kernel
theorem dL_move_26 : decode cL_move 26 = .ok (.ireturn, 1) := by decide +kernel
theorem dL_put_0 : decode cL_put 0 = .ok (.aload_n 3, 1) := by decide +kernel
theorem dL_put_1 : decode cL_put 1 = .ok (.iconst 0, 1) := by decide +kernel
theorem dL_put_2 : decode cL_put 2 = .ok (.aload_n 0, 1) := by decide +kernel
theorem dL_put_3 : decode cL_put 3 = .ok (.iload_n 1, 1) := by decide +kernel
theorem dL_put_4 : decode cL_put 4 = .ok (.iload_n 2, 1) := by decide +kernel
theorem dL_put_5 : decode cL_put 5 = .ok (.invokevirtual 47, 3) := by decide +kernel
theorem dL_put_8 : decode cL_put 8 = .ok (.i2l, 1) := by decide +kernel
theorem dL_put_9 : decode cL_put 9 = .ok (.lastore, 1) := by decide +kernel
theorem dL_put_10 : decode cL_put 10 = .ok (.goto 15, 3) := by decide +kernel
theorem dL_put_13 : decode cL_put 13 = .ok (.astore 4, 2) := by decide +kernel
theorem dL_put_15 : decode cL_put 15 = .ok (.iconst 1, 1) := by decide +kernel
theorem dL_put_16 : decode cL_put 16 = .ok (.ireturn, 1) := by decide +kernel
theorem dL_put_17 : decode cL_put 17 = .ok (.astore 4, 2) := by decide +kernel
theorem dL_put_19 : decode cL_put 19 = .ok (.iconst 2, 1) := by decide +kernel
theorem dL_put_20 : decode cL_put 20 = .ok (.ireturn, 1) := by decide +kernel
theorem dL_put_21 : decode cL_put 21 = .ok (.astore 4, 2) := by decide +kernel
theorem dL_put_23 : decode cL_put 23 = .ok (.iconst 3, 1) := by decide +kernel
theorem dL_put_24 : decode cL_put 24 = .ok (.ireturn, 1) := by decide +kernel
theorem dL_put_25 : decode cL_put 25 = .ok (.iconst 0, 1) := by decide +kernel
theorem dL_put_26 : decode cL_put 26 = .ok (.ireturn, 1) := by decide +kernel
theorem dL_motion_0 : decode cL_motion 0 = .ok (.aload_n 3, 1) := by decide +kernel
theorem dL_motion_1 : decode cL_motion 1 = .ok (.iconst 0, 1) := by decide +kernel
theorem dL_motion_2 : decode cL_motion 2 = .ok (.aload_n 0, 1) := by decide +kernel
theorem dL_motion_3 : decode cL_motion 3 = .ok (.iload_n 1, 1) := by decide +kernel
theorem dL_motion_4 : decode cL_motion 4 = .ok (.iload_n 2, 1) := by decide +kernel
theorem dL_motion_5 : decode cL_motion 5 = .ok (.invokevirtual 50, 3) := by decide +kernel
theorem dL_motion_8 : decode cL_motion 8 = .ok (.i2l, 1) := by decide +kernel
theorem dL_motion_9 : decode cL_motion 9 = .ok (.lastore, 1) := by decide +kernel
theorem dL_motion_10 : decode cL_motion 10 = .ok (.goto 7, 3) := by decide +kernel
theorem dL_motion_13 : decode cL_motion 13 = .ok (.astore 4, 2) := by decide +kernel
theorem dL_motion_15 : decode cL_motion 15 = .ok (.iconst 1, 1) := by decide +kernel
theorem dL_motion_16 : decode cL_motion 16 = .ok (.ireturn, 1) := by decide +kernel
theorem dL_motion_17 : decode cL_motion 17 = .ok (.iconst 0, 1) := by decide +kernel
theorem dL_motion_18 : decode cL_motion 18 = .ok (.ireturn, 1) := by decide +kernel
theorem dL_stand_0 : decode cL_stand 0 = .ok (.aload_n 3, 1) := by decide +kernel
theorem dL_stand_1 : decode cL_stand 1 = .ok (.iconst 0, 1) := by decide +kernel
theorem dL_stand_2 : decode cL_stand 2 = .ok (.aload_n 0, 1) := by decide +kernel
theorem dL_stand_3 : decode cL_stand 3 = .ok (.iload_n 1, 1) := by decide +kernel
theorem dL_stand_4 : decode cL_stand 4 = .ok (.iload_n 2, 1) := by decide +kernel
theorem dL_stand_5 : decode cL_stand 5 = .ok (.invokevirtual 53, 3) := by decide +kernel
theorem dL_stand_8 : decode cL_stand 8 = .ok (.i2l, 1) := by decide +kernel
theorem dL_stand_9 : decode cL_stand 9 = .ok (.lastore, 1) := by decide +kernel
theorem dL_stand_10 : decode cL_stand 10 = .ok (.goto 7, 3) := by decide +kernel
theorem dL_stand_13 : decode cL_stand 13 = .ok (.astore 4, 2) := by decide +kernel
theorem dL_stand_15 : decode cL_stand 15 = .ok (.iconst 1, 1) := by decide +kernel
theorem dL_stand_16 : decode cL_stand 16 = .ok (.ireturn, 1) := by decide +kernel
theorem dL_stand_17 : decode cL_stand 17 = .ok (.iconst 0, 1) := by decide +kernel
theorem dL_stand_18 : decode cL_stand 18 = .ok (.ireturn, 1) := by decide +kernel
theorem dL_pass_0 : decode cL_pass 0 = .ok (.aload_n 2, 1) := by decide +kernel
theorem dL_pass_1 : decode cL_pass 1 = .ok (.iconst 0, 1) := by decide +kernel
theorem dL_pass_2 : decode cL_pass 2 = .ok (.aload_n 0, 1) := by decide +kernel
theorem dL_pass_3 : decode cL_pass 3 = .ok (.iload_n 1, 1) := by decide +kernel
theorem dL_pass_4 : decode cL_pass 4 = .ok (.invokevirtual 56, 3) := by decide +kernel
theorem dL_pass_7 : decode cL_pass 7 = .ok (.i2l, 1) := by decide +kernel
theorem dL_pass_8 : decode cL_pass 8 = .ok (.lastore, 1) := by decide +kernel
theorem dL_pass_9 : decode cL_pass 9 = .ok (.goto 9, 3) := by decide +kernel
theorem dL_pass_12 : decode cL_pass 12 = .ok (.astore_n 3, 1) := by decide +kernel
theorem dL_pass_13 : decode cL_pass 13 = .ok (.iconst 1, 1) := by decide +kernel
theorem dL_pass_14 : decode cL_pass 14 = .ok (.ireturn, 1) := by decide +kernel
theorem dL_pass_15 : decode cL_pass 15 = .ok (.astore_n 3, 1) := by decide +kernel
theorem dL_pass_16 : decode cL_pass 16 = .ok (.iconst 2, 1) := by decide +kernel
theorem dL_pass_17 : decode cL_pass 17 = .ok (.ireturn, 1) := by decide +kernel
theorem dL_pass_18 : decode cL_pass 18 = .ok (.iconst 0, 1) := by decide +kernel
theorem dL_pass_19 : decode cL_pass 19 = .ok (.ireturn, 1) := by decide +kernel
theorem dL_count_0 : decode cL_count 0 = .ok (.aload_n 2, 1) := by decide +kernel
theorem dL_count_1 : decode cL_count 1 = .ok (.iconst 0, 1) := by decide +kernel
theorem dL_count_2 : decode cL_count 2 = .ok (.aload_n 0, 1) := by decide +kernel
theorem dL_count_3 : decode cL_count 3 = .ok (.iload_n 1, 1) := by decide +kernel
theorem dL_count_4 : decode cL_count 4 = .ok (.invokevirtual 59, 3) := by decide +kernel
theorem dL_count_7 : decode cL_count 7 = .ok (.i2l, 1) := by decide +kernel
theorem dL_count_8 : decode cL_count 8 = .ok (.lastore, 1) := by decide +kernel
theorem dL_count_9 : decode cL_count 9 = .ok (.goto 6, 3) := by decide +kernel
theorem dL_count_12 : decode cL_count 12 = .ok (.astore_n 3, 1) := by decide +kernel
theorem dL_count_13 : decode cL_count 13 = .ok (.iconst 1, 1) := by decide +kernel
theorem dL_count_14 : decode cL_count 14 = .ok (.ireturn, 1) := by decide +kernel
theorem dL_count_15 : decode cL_count 15 = .ok (.iconst 0, 1) := by decide +kernel
theorem dL_count_16 : decode cL_count 16 = .ok (.ireturn, 1) := by decide +kernel
theorem dL_party_0 : decode cL_party 0 = .ok (.aload_n 3, 1) := by decide +kernel
theorem dL_party_1 : decode cL_party 1 = .ok (.iconst 0, 1) := by decide +kernel
theorem dL_party_2 : decode cL_party 2 = .ok (.aload_n 0, 1) := by decide +kernel
theorem dL_party_3 : decode cL_party 3 = .ok (.iload_n 1, 1) := by decide +kernel
theorem dL_party_4 : decode cL_party 4 = .ok (.iload_n 2, 1) := by decide +kernel
theorem dL_party_5 : decode cL_party 5 = .ok (.invokevirtual 62, 3) := by decide +kernel
theorem dL_party_8 : decode cL_party 8 = .ok (.i2l, 1) := by decide +kernel
theorem dL_party_9 : decode cL_party 9 = .ok (.lastore, 1) := by decide +kernel
theorem dL_party_10 : decode cL_party 10 = .ok (.goto 7, 3) := by decide +kernel
theorem dL_party_13 : decode cL_party 13 = .ok (.astore 4, 2) := by decide +kernel
theorem dL_party_15 : decode cL_party 15 = .ok (.iconst 1, 1) := by decide +kernel
theorem dL_party_16 : decode cL_party 16 = .ok (.ireturn, 1) := by decide +kernel
theorem dL_party_17 : decode cL_party 17 = .ok (.iconst 0, 1) := by decide +kernel
theorem dL_party_18 : decode cL_party 18 = .ok (.ireturn, 1) := by decide +kernel
theorem dL_foresee_0 : decode cL_foresee 0 = .ok (.aload_n 3, 1) := by decide +kernel
theorem dL_foresee_1 : decode cL_foresee 1 = .ok (.iconst 0, 1) := by decide +kernel
theorem dL_foresee_2 : decode cL_foresee 2 = .ok (.aload_n 0, 1) := by decide +kernel
theorem dL_foresee_3 : decode cL_foresee 3 = .ok (.iload_n 1, 1) := by decide +kernel
theorem dL_foresee_4 : decode cL_foresee 4 = .ok (.iload_n 2, 1) := by decide +kernel
theorem dL_foresee_5 : decode cL_foresee 5 = .ok (.invokevirtual 65, 3) := by decide +kernel
theorem dL_foresee_8 : decode cL_foresee 8 = .ok (.i2l, 1) := by decide +kernel
theorem dL_foresee_9 : decode cL_foresee 9 = .ok (.lastore, 1) := by decide +kernel
theorem dL_foresee_10 : decode cL_foresee 10 = .ok (.goto 15, 3) := by decide +kernel
theorem dL_foresee_13 : decode cL_foresee 13 = .ok (.astore 4, 2) := by decide +kernel
theorem dL_foresee_15 : decode cL_foresee 15 = .ok (.iconst 1, 1) := by decide +kernel
theorem dL_foresee_16 : decode cL_foresee 16 = .ok (.ireturn, 1) := by decide +kernel
theorem dL_foresee_17 : decode cL_foresee 17 = .ok (.astore 4, 2) := by decide +kernel
theorem dL_foresee_19 : decode cL_foresee 19 = .ok (.iconst 2, 1) := by decide +kernel
theorem dL_foresee_20 : decode cL_foresee 20 = .ok (.ireturn, 1) := by decide +kernel
theorem dL_foresee_21 : decode cL_foresee 21 = .ok (.astore 4, 2) := by decide +kernel
theorem dL_foresee_23 : decode cL_foresee 23 = .ok (.iconst 3, 1) := by decide +kernel
theorem dL_foresee_24 : decode cL_foresee 24 = .ok (.ireturn, 1) := by decide +kernel
theorem dL_foresee_25 : decode cL_foresee 25 = .ok (.iconst 0, 1) := by decide +kernel
theorem dL_foresee_26 : decode cL_foresee 26 = .ok (.ireturn, 1) := by decide +kernel
theorem dL_passes_0 : decode cL_passes 0 = .ok (.aload_n 3, 1) := by decide +kernel
theorem dL_passes_1 : decode cL_passes 1 = .ok (.iconst 0, 1) := by decide +kernel
theorem dL_passes_2 : decode cL_passes 2 = .ok (.aload_n 0, 1) := by decide +kernel
theorem dL_passes_3 : decode cL_passes 3 = .ok (.iload_n 1, 1) := by decide +kernel
theorem dL_passes_4 : decode cL_passes 4 = .ok (.iload_n 2, 1) := by decide +kernel
theorem dL_passes_5 : decode cL_passes 5 = .ok (.invokevirtual 68, 3) := by decide +kernel
theorem dL_passes_8 : decode cL_passes 8 = .ok (.i2l, 1) := by decide +kernel
theorem dL_passes_9 : decode cL_passes 9 = .ok (.lastore, 1) := by decide +kernel
theorem dL_passes_10 : decode cL_passes 10 = .ok (.goto 15, 3) := by decide +kernel
theorem dL_passes_13 : decode cL_passes 13 = .ok (.astore 4, 2) := by decide +kernel
theorem dL_passes_15 : decode cL_passes 15 = .ok (.iconst 1, 1) := by decide +kernel
theorem dL_passes_16 : decode cL_passes 16 = .ok (.ireturn, 1) := by decide +kernel
theorem dL_passes_17 : decode cL_passes 17 = .ok (.astore 4, 2) := by decide +kernel
theorem dL_passes_19 : decode cL_passes 19 = .ok (.iconst 2, 1) := by decide +kernel
theorem dL_passes_20 : decode cL_passes 20 = .ok (.ireturn, 1) := by decide +kernel
theorem dL_passes_21 : decode cL_passes 21 = .ok (.astore 4, 2) := by decide +kernel
theorem dL_passes_23 : decode cL_passes 23 = .ok (.iconst 3, 1) := by decide +kernel
theorem dL_passes_24 : decode cL_passes 24 = .ok (.ireturn, 1) := by decide +kernel
theorem dL_passes_25 : decode cL_passes 25 = .ok (.iconst 0, 1) := by decide +kernel
theorem dL_passes_26 : decode cL_passes 26 = .ok (.ireturn, 1) := by decide +kernel
theorem dL_advise_0 : decode cL_advise 0 = .ok (.aload_n 3, 1) := by decide +kernel
theorem dL_advise_1 : decode cL_advise 1 = .ok (.iconst 0, 1) := by decide +kernel
theorem dL_advise_2 : decode cL_advise 2 = .ok (.aload_n 0, 1) := by decide +kernel
theorem dL_advise_3 : decode cL_advise 3 = .ok (.iload_n 1, 1) := by decide +kernel
theorem dL_advise_4 : decode cL_advise 4 = .ok (.iload_n 2, 1) := by decide +kernel
theorem dL_advise_5 : decode cL_advise 5 = .ok (.invokevirtual 71, 3) := by decide +kernel
theorem dL_advise_8 : decode cL_advise 8 = .ok (.i2l, 1) := by decide +kernel
theorem dL_advise_9 : decode cL_advise 9 = .ok (.lastore, 1) := by decide +kernel
theorem dL_advise_10 : decode cL_advise 10 = .ok (.goto 15, 3) := by decide +kernel
theorem dL_advise_13 : decode cL_advise 13 = .ok (.astore 4, 2) := by decide +kernel
theorem dL_advise_15 : decode cL_advise 15 = .ok (.iconst 1, 1) := by decide +kernel
theorem dL_advise_16 : decode cL_advise 16 = .ok (.ireturn, 1) := by decide +kernel
theorem dL_advise_17 : decode cL_advise 17 = .ok (.astore 4, 2) := by decide +kernel
theorem dL_advise_19 : decode cL_advise 19 = .ok (.iconst 2, 1) := by decide +kernel
theorem dL_advise_20 : decode cL_advise 20 = .ok (.ireturn, 1) := by decide +kernel
theorem dL_advise_21 : decode cL_advise 21 = .ok (.astore 4, 2) := by decide +kernel
theorem dL_advise_23 : decode cL_advise 23 = .ok (.iconst 3, 1) := by decide +kernel
theorem dL_advise_24 : decode cL_advise 24 = .ok (.ireturn, 1) := by decide +kernel
theorem dL_advise_25 : decode cL_advise 25 = .ok (.iconst 0, 1) := by decide +kernel
theorem dL_advise_26 : decode cL_advise 26 = .ok (.ireturn, 1) := by decide +kernel
theorem dL_law_0 : decode cL_law 0 = .ok (.new 8, 3) := by decide +kernel
theorem dL_law_3 : decode cL_law 3 = .ok (.dup, 1) := by decide +kernel
theorem dL_law_4 : decode cL_law 4 = .ok (.invokespecial 74, 3) := by decide +kernel
theorem dL_law_7 : decode cL_law 7 = .ok (.astore_n 1, 1) := by decide +kernel
theorem dL_law_8 : decode cL_law 8 = .ok (.new 75, 3) := by decide +kernel
theorem dL_law_11 : decode cL_law 11 = .ok (.dup, 1) := by decide +kernel
theorem dL_law_12 : decode cL_law 12 = .ok (.invokespecial 77, 3) := by decide +kernel
theorem dL_law_15 : decode cL_law 15 = .ok (.astore_n 2, 1) := by decide +kernel
theorem dL_law_16 : decode cL_law 16 = .ok (.iconst 1, 1) := by decide +kernel
theorem dL_law_17 : decode cL_law 17 = .ok (.newarray .long, 2) := by decide +kernel
theorem dL_law_19 : decode cL_law 19 = .ok (.astore_n 3, 1) := by decide +kernel
theorem dL_law_20 : decode cL_law 20 = .ok (.iconst 0, 1) := by decide +kernel
theorem dL_law_21 : decode cL_law 21 = .ok (.istore 4, 2) := by decide +kernel
theorem dL_law_23 : decode cL_law 23 = .ok (.iload 4, 2) := by decide +kernel
theorem dL_law_25 : decode cL_law 25 = .ok (.aload_n 0, 1) := by decide +kernel
theorem dL_law_26 : decode cL_law 26 = .ok (.arraylength, 1) := by decide +kernel
theorem dL_law_27 : decode cL_law 27 = .ok (.bipush 7, 2) := by decide +kernel
theorem dL_law_29 : decode cL_law 29 = .ok (.isub, 1) := by decide +kernel
theorem dL_law_30 : decode cL_law 30 = .ok (.if_icmp .gt 1502, 3) := by decide +kernel
theorem dL_law_33 : decode cL_law 33 = .ok (.aload_n 0, 1) := by decide +kernel
theorem dL_law_34 : decode cL_law 34 = .ok (.iload 4, 2) := by decide +kernel
theorem dL_law_36 : decode cL_law 36 = .ok (.iaload, 1) := by decide +kernel
theorem dL_law_37 : decode cL_law 37 = .ok (.bipush 31, 2) := by decide +kernel
theorem dL_law_39 : decode cL_law 39 = .ok (.iand, 1) := by decide +kernel
theorem dL_law_40 : decode cL_law 40 = .ok (.tableswitch 1486 0 20 #[100, 196, 292, 360, 478, 534, 602, 670, 738, 830, 898, 966, 1034, 1090, 1146, 1214, 1227, 1295, 1363, 1431, 1472], 100) := by decide +kernel
theorem dL_law_140 : decode cL_law 140 = .ok (.aload_n 1, 1) := by decide +kernel
theorem dL_law_141 : decode cL_law 141 = .ok (.aload_n 0, 1) := by decide +kernel
theorem dL_law_142 : decode cL_law 142 = .ok (.iload 4, 2) := by decide +kernel
theorem dL_law_144 : decode cL_law 144 = .ok (.iconst 1, 1) := by decide +kernel
theorem dL_law_145 : decode cL_law 145 = .ok (.iadd, 1) := by decide +kernel
theorem dL_law_146 : decode cL_law 146 = .ok (.iaload, 1) := by decide +kernel
theorem dL_law_147 : decode cL_law 147 = .ok (.aload_n 0, 1) := by decide +kernel
theorem dL_law_148 : decode cL_law 148 = .ok (.iload 4, 2) := by decide +kernel
theorem dL_law_150 : decode cL_law 150 = .ok (.iconst 2, 1) := by decide +kernel
theorem dL_law_151 : decode cL_law 151 = .ok (.iadd, 1) := by decide +kernel
theorem dL_law_152 : decode cL_law 152 = .ok (.iaload, 1) := by decide +kernel
theorem dL_law_153 : decode cL_law 153 = .ok (.aload_n 0, 1) := by decide +kernel
theorem dL_law_154 : decode cL_law 154 = .ok (.iload 4, 2) := by decide +kernel
theorem dL_law_156 : decode cL_law 156 = .ok (.iconst 3, 1) := by decide +kernel
theorem dL_law_157 : decode cL_law 157 = .ok (.iadd, 1) := by decide +kernel
theorem dL_law_158 : decode cL_law 158 = .ok (.iaload, 1) := by decide +kernel
theorem dL_law_159 : decode cL_law 159 = .ok (.ifCond .eq 7, 3) := by decide +kernel
theorem dL_law_162 : decode cL_law 162 = .ok (.iconst 1, 1) := by decide +kernel
theorem dL_law_163 : decode cL_law 163 = .ok (.goto 4, 3) := by decide +kernel
theorem dL_law_166 : decode cL_law 166 = .ok (.iconst 0, 1) := by decide +kernel
theorem dL_law_167 : decode cL_law 167 = .ok (.aload_n 3, 1) := by decide +kernel
theorem dL_law_168 : decode cL_law 168 = .ok (.invokestatic 78, 3) := by decide +kernel
theorem dL_law_171 : decode cL_law 171 = .ok (.istore 5, 2) := by decide +kernel
theorem dL_law_173 : decode cL_law 173 = .ok (.aload_n 2, 1) := by decide +kernel
theorem dL_law_174 : decode cL_law 174 = .ok (.aload_n 0, 1) := by decide +kernel
theorem dL_law_175 : decode cL_law 175 = .ok (.iload 4, 2) := by decide +kernel
theorem dL_law_177 : decode cL_law 177 = .ok (.iconst 1, 1) := by decide +kernel
theorem dL_law_178 : decode cL_law 178 = .ok (.iadd, 1) := by decide +kernel
theorem dL_law_179 : decode cL_law 179 = .ok (.iaload, 1) := by decide +kernel
theorem dL_law_180 : decode cL_law 180 = .ok (.aload_n 0, 1) := by decide +kernel
theorem dL_law_181 : decode cL_law 181 = .ok (.iload 4, 2) := by decide +kernel
theorem dL_law_183 : decode cL_law 183 = .ok (.iconst 2, 1) := by decide +kernel
theorem dL_law_184 : decode cL_law 184 = .ok (.iadd, 1) := by decide +kernel
theorem dL_law_185 : decode cL_law 185 = .ok (.iaload, 1) := by decide +kernel
theorem dL_law_186 : decode cL_law 186 = .ok (.aload_n 0, 1) := by decide +kernel
theorem dL_law_187 : decode cL_law 187 = .ok (.iload 4, 2) := by decide +kernel
theorem dL_law_189 : decode cL_law 189 = .ok (.iconst 3, 1) := by decide +kernel
theorem dL_law_190 : decode cL_law 190 = .ok (.iadd, 1) := by decide +kernel
theorem dL_law_191 : decode cL_law 191 = .ok (.iaload, 1) := by decide +kernel
theorem dL_law_192 : decode cL_law 192 = .ok (.ifCond .eq 7, 3) := by decide +kernel
theorem dL_law_195 : decode cL_law 195 = .ok (.iconst 1, 1) := by decide +kernel
theorem dL_law_196 : decode cL_law 196 = .ok (.goto 4, 3) := by decide +kernel
theorem dL_law_199 : decode cL_law 199 = .ok (.iconst 0, 1) := by decide +kernel
theorem dL_law_200 : decode cL_law 200 = .ok (.invokevirtual 83, 3) := by decide +kernel
theorem dL_law_203 : decode cL_law 203 = .ok (.istore 6, 2) := by decide +kernel
theorem dL_law_205 : decode cL_law 205 = .ok (.aload_n 2, 1) := by decide +kernel
theorem dL_law_206 : decode cL_law 206 = .ok (.invokevirtual 84, 3) := by decide +kernel
theorem dL_law_209 : decode cL_law 209 = .ok (.iload 5, 2) := by decide +kernel
theorem dL_law_211 : decode cL_law 211 = .ok (.if_icmp .eq 5, 3) := by decide +kernel
theorem dL_law_214 : decode cL_law 214 = .ok (.iconst 0, 1) := by decide +kernel
theorem dL_law_215 : decode cL_law 215 = .ok (.ireturn, 1) := by decide +kernel
theorem dL_law_216 : decode cL_law 216 = .ok (.iload 5, 2) := by decide +kernel
theorem dL_law_218 : decode cL_law 218 = .ok (.ifCond .ne 15, 3) := by decide +kernel
theorem dL_law_221 : decode cL_law 221 = .ok (.aload_n 3, 1) := by decide +kernel
theorem dL_law_222 : decode cL_law 222 = .ok (.iconst 0, 1) := by decide +kernel
theorem dL_law_223 : decode cL_law 223 = .ok (.laload, 1) := by decide +kernel
theorem dL_law_224 : decode cL_law 224 = .ok (.iload 6, 2) := by decide +kernel
theorem dL_law_226 : decode cL_law 226 = .ok (.i2l, 1) := by decide +kernel
theorem dL_law_227 : decode cL_law 227 = .ok (.lcmp, 1) := by decide +kernel
theorem dL_law_228 : decode cL_law 228 = .ok (.ifCond .eq 5, 3) := by decide +kernel
theorem dL_law_231 : decode cL_law 231 = .ok (.iconst 0, 1) := by decide +kernel
theorem dL_law_232 : decode cL_law 232 = .ok (.ireturn, 1) := by decide +kernel
theorem dL_law_233 : decode cL_law 233 = .ok (.goto 1293, 3) := by decide +kernel
theorem dL_law_236 : decode cL_law 236 = .ok (.aload_n 1, 1) := by decide +kernel
theorem dL_law_237 : decode cL_law 237 = .ok (.aload_n 0, 1) := by decide +kernel
theorem dL_law_238 : decode cL_law 238 = .ok (.iload 4, 2) := by decide +kernel
theorem dL_law_240 : decode cL_law 240 = .ok (.iconst 1, 1) := by decide +kernel
theorem dL_law_241 : decode cL_law 241 = .ok (.iadd, 1) := by decide +kernel
theorem dL_law_242 : decode cL_law 242 = .ok (.iaload, 1) := by decide +kernel
theorem dL_law_243 : decode cL_law 243 = .ok (.aload_n 0, 1) := by decide +kernel
theorem dL_law_244 : decode cL_law 244 = .ok (.iload 4, 2) := by decide +kernel
theorem dL_law_246 : decode cL_law 246 = .ok (.iconst 2, 1) := by decide +kernel
theorem dL_law_247 : decode cL_law 247 = .ok (.iadd, 1) := by decide +kernel
theorem dL_law_248 : decode cL_law 248 = .ok (.iaload, 1) := by decide +kernel
theorem dL_law_249 : decode cL_law 249 = .ok (.aload_n 0, 1) := by decide +kernel
theorem dL_law_250 : decode cL_law 250 = .ok (.iload 4, 2) := by decide +kernel
theorem dL_law_252 : decode cL_law 252 = .ok (.iconst 3, 1) := by decide +kernel
theorem dL_law_253 : decode cL_law 253 = .ok (.iadd, 1) := by decide +kernel
theorem dL_law_254 : decode cL_law 254 = .ok (.iaload, 1) := by decide +kernel
theorem dL_law_255 : decode cL_law 255 = .ok (.ifCond .eq 7, 3) := by decide +kernel
theorem dL_law_258 : decode cL_law 258 = .ok (.iconst 1, 1) := by decide +kernel
theorem dL_law_259 : decode cL_law 259 = .ok (.goto 4, 3) := by decide +kernel
theorem dL_law_262 : decode cL_law 262 = .ok (.iconst 0, 1) := by decide +kernel
theorem dL_law_263 : decode cL_law 263 = .ok (.aload_n 3, 1) := by decide +kernel
theorem dL_law_264 : decode cL_law 264 = .ok (.invokestatic 88, 3) := by decide +kernel
theorem dL_law_267 : decode cL_law 267 = .ok (.istore 5, 2) := by decide +kernel
theorem dL_law_269 : decode cL_law 269 = .ok (.aload_n 2, 1) := by decide +kernel
theorem dL_law_270 : decode cL_law 270 = .ok (.aload_n 0, 1) := by decide +kernel
theorem dL_law_271 : decode cL_law 271 = .ok (.iload 4, 2) := by decide +kernel
theorem dL_law_273 : decode cL_law 273 = .ok (.iconst 1, 1) := by decide +kernel
theorem dL_law_274 : decode cL_law 274 = .ok (.iadd, 1) := by decide +kernel
theorem dL_law_275 : decode cL_law 275 = .ok (.iaload, 1) := by decide +kernel
theorem dL_law_276 : decode cL_law 276 = .ok (.aload_n 0, 1) := by decide +kernel
theorem dL_law_277 : decode cL_law 277 = .ok (.iload 4, 2) := by decide +kernel
theorem dL_law_279 : decode cL_law 279 = .ok (.iconst 2, 1) := by decide +kernel
theorem dL_law_280 : decode cL_law 280 = .ok (.iadd, 1) := by decide +kernel
theorem dL_law_281 : decode cL_law 281 = .ok (.iaload, 1) := by decide +kernel
theorem dL_law_282 : decode cL_law 282 = .ok (.aload_n 0, 1) := by decide +kernel
theorem dL_law_283 : decode cL_law 283 = .ok (.iload 4, 2) := by decide +kernel
theorem dL_law_285 : decode cL_law 285 = .ok (.iconst 3, 1) := by decide +kernel
theorem dL_law_286 : decode cL_law 286 = .ok (.iadd, 1) := by decide +kernel
theorem dL_law_287 : decode cL_law 287 = .ok (.iaload, 1) := by decide +kernel
theorem dL_law_288 : decode cL_law 288 = .ok (.ifCond .eq 7, 3) := by decide +kernel
theorem dL_law_291 : decode cL_law 291 = .ok (.iconst 1, 1) := by decide +kernel
theorem dL_law_292 : decode cL_law 292 = .ok (.goto 4, 3) := by decide +kernel
theorem dL_law_295 : decode cL_law 295 = .ok (.iconst 0, 1) := by decide +kernel
theorem dL_law_296 : decode cL_law 296 = .ok (.invokevirtual 90, 3) := by decide +kernel
theorem dL_law_299 : decode cL_law 299 = .ok (.istore 6, 2) := by decide +kernel
theorem dL_law_301 : decode cL_law 301 = .ok (.aload_n 2, 1) := by decide +kernel
theorem dL_law_302 : decode cL_law 302 = .ok (.invokevirtual 84, 3) := by decide +kernel
theorem dL_law_305 : decode cL_law 305 = .ok (.iload 5, 2) := by decide +kernel
theorem dL_law_307 : decode cL_law 307 = .ok (.if_icmp .eq 5, 3) := by decide +kernel
theorem dL_law_310 : decode cL_law 310 = .ok (.iconst 0, 1) := by decide +kernel
theorem dL_law_311 : decode cL_law 311 = .ok (.ireturn, 1) := by decide +kernel
theorem dL_law_312 : decode cL_law 312 = .ok (.iload 5, 2) := by decide +kernel
theorem dL_law_314 : decode cL_law 314 = .ok (.ifCond .ne 15, 3) := by decide +kernel
theorem dL_law_317 : decode cL_law 317 = .ok (.aload_n 3, 1) := by decide +kernel
theorem dL_law_318 : decode cL_law 318 = .ok (.iconst 0, 1) := by decide +kernel
theorem dL_law_319 : decode cL_law 319 = .ok (.laload, 1) := by decide +kernel
theorem dL_law_320 : decode cL_law 320 = .ok (.iload 6, 2) := by decide +kernel
theorem dL_law_322 : decode cL_law 322 = .ok (.i2l, 1) := by decide +kernel
theorem dL_law_323 : decode cL_law 323 = .ok (.lcmp, 1) := by decide +kernel
theorem dL_law_324 : decode cL_law 324 = .ok (.ifCond .eq 5, 3) := by decide +kernel
theorem dL_law_327 : decode cL_law 327 = .ok (.iconst 0, 1) := by decide +kernel
theorem dL_law_328 : decode cL_law 328 = .ok (.ireturn, 1) := by decide +kernel
theorem dL_law_329 : decode cL_law 329 = .ok (.goto 1197, 3) := by decide +kernel
theorem dL_law_332 : decode cL_law 332 = .ok (.aload_n 1, 1) := by decide +kernel
theorem dL_law_333 : decode cL_law 333 = .ok (.aload_n 0, 1) := by decide +kernel
theorem dL_law_334 : decode cL_law 334 = .ok (.iload 4, 2) := by decide +kernel
theorem dL_law_336 : decode cL_law 336 = .ok (.iconst 1, 1) := by decide +kernel
theorem dL_law_337 : decode cL_law 337 = .ok (.iadd, 1) := by decide +kernel
theorem dL_law_338 : decode cL_law 338 = .ok (.iaload, 1) := by decide +kernel
theorem dL_law_339 : decode cL_law 339 = .ok (.aload_n 0, 1) := by decide +kernel
theorem dL_law_340 : decode cL_law 340 = .ok (.iload 4, 2) := by decide +kernel
theorem dL_law_342 : decode cL_law 342 = .ok (.iconst 2, 1) := by decide +kernel
theorem dL_law_343 : decode cL_law 343 = .ok (.iadd, 1) := by decide +kernel
theorem dL_law_344 : decode cL_law 344 = .ok (.iaload, 1) := by decide +kernel
theorem dL_law_345 : decode cL_law 345 = .ok (.aload_n 3, 1) := by decide +kernel
theorem dL_law_346 : decode cL_law 346 = .ok (.invokestatic 91, 3) := by decide +kernel
theorem dL_law_349 : decode cL_law 349 = .ok (.istore 5, 2) := by decide +kernel
theorem dL_law_351 : decode cL_law 351 = .ok (.aload_n 2, 1) := by decide +kernel
theorem dL_law_352 : decode cL_law 352 = .ok (.aload_n 0, 1) := by decide +kernel
theorem dL_law_353 : decode cL_law 353 = .ok (.iload 4, 2) := by decide +kernel
theorem dL_law_355 : decode cL_law 355 = .ok (.iconst 1, 1) := by decide +kernel
theorem dL_law_356 : decode cL_law 356 = .ok (.iadd, 1) := by decide +kernel
theorem dL_law_357 : decode cL_law 357 = .ok (.iaload, 1) := by decide +kernel
theorem dL_law_358 : decode cL_law 358 = .ok (.aload_n 0, 1) := by decide +kernel
theorem dL_law_359 : decode cL_law 359 = .ok (.iload 4, 2) := by decide +kernel
theorem dL_law_361 : decode cL_law 361 = .ok (.iconst 2, 1) := by decide +kernel
theorem dL_law_362 : decode cL_law 362 = .ok (.iadd, 1) := by decide +kernel
theorem dL_law_363 : decode cL_law 363 = .ok (.iaload, 1) := by decide +kernel
theorem dL_law_364 : decode cL_law 364 = .ok (.invokevirtual 94, 3) := by decide +kernel
theorem dL_law_367 : decode cL_law 367 = .ok (.istore 6, 2) := by decide +kernel
theorem dL_law_369 : decode cL_law 369 = .ok (.aload_n 2, 1) := by decide +kernel
theorem dL_law_370 : decode cL_law 370 = .ok (.invokevirtual 84, 3) := by decide +kernel
theorem dL_law_373 : decode cL_law 373 = .ok (.iload 5, 2) := by decide +kernel
theorem dL_law_375 : decode cL_law 375 = .ok (.if_icmp .eq 5, 3) := by decide +kernel
theorem dL_law_378 : decode cL_law 378 = .ok (.iconst 0, 1) := by decide +kernel
theorem dL_law_379 : decode cL_law 379 = .ok (.ireturn, 1) := by decide +kernel
theorem dL_law_380 : decode cL_law 380 = .ok (.iload 5, 2) := by decide +kernel
theorem dL_law_382 : decode cL_law 382 = .ok (.ifCond .ne 15, 3) := by decide +kernel
theorem dL_law_385 : decode cL_law 385 = .ok (.aload_n 3, 1) := by decide +kernel
theorem dL_law_386 : decode cL_law 386 = .ok (.iconst 0, 1) := by decide +kernel
theorem dL_law_387 : decode cL_law 387 = .ok (.laload, 1) := by decide +kernel
theorem dL_law_388 : decode cL_law 388 = .ok (.iload 6, 2) := by decide +kernel
theorem dL_law_390 : decode cL_law 390 = .ok (.i2l, 1) := by decide +kernel
theorem dL_law_391 : decode cL_law 391 = .ok (.lcmp, 1) := by decide +kernel
theorem dL_law_392 : decode cL_law 392 = .ok (.ifCond .eq 5, 3) := by decide +kernel
theorem dL_law_395 : decode cL_law 395 = .ok (.iconst 0, 1) := by decide +kernel
theorem dL_law_396 : decode cL_law 396 = .ok (.ireturn, 1) := by decide +kernel
theorem dL_law_397 : decode cL_law 397 = .ok (.goto 1129, 3) := by decide +kernel
theorem dL_law_400 : decode cL_law 400 = .ok (.aload_n 1, 1) := by decide +kernel
theorem dL_law_401 : decode cL_law 401 = .ok (.aload_n 0, 1) := by decide +kernel
theorem dL_law_402 : decode cL_law 402 = .ok (.iload 4, 2) := by decide +kernel
theorem dL_law_404 : decode cL_law 404 = .ok (.iconst 1, 1) := by decide +kernel
theorem dL_law_405 : decode cL_law 405 = .ok (.iadd, 1) := by decide +kernel
theorem dL_law_406 : decode cL_law 406 = .ok (.iaload, 1) := by decide +kernel
theorem dL_law_407 : decode cL_law 407 = .ok (.aload_n 0, 1) := by decide +kernel
theorem dL_law_408 : decode cL_law 408 = .ok (.iload 4, 2) := by decide +kernel
theorem dL_law_410 : decode cL_law 410 = .ok (.iconst 2, 1) := by decide +kernel
theorem dL_law_411 : decode cL_law 411 = .ok (.iadd, 1) := by decide +kernel
theorem dL_law_412 : decode cL_law 412 = .ok (.iaload, 1) := by decide +kernel
theorem dL_law_413 : decode cL_law 413 = .ok (.aload_n 0, 1) := by decide +kernel
theorem dL_law_414 : decode cL_law 414 = .ok (.iload 4, 2) := by decide +kernel
theorem dL_law_416 : decode cL_law 416 = .ok (.iconst 3, 1) := by decide +kernel
theorem dL_law_417 : decode cL_law 417 = .ok (.iadd, 1) := by decide +kernel
theorem dL_law_418 : decode cL_law 418 = .ok (.iaload, 1) := by decide +kernel
theorem dL_law_419 : decode cL_law 419 = .ok (.aload_n 0, 1) := by decide +kernel
theorem dL_law_420 : decode cL_law 420 = .ok (.iload 4, 2) := by decide +kernel
theorem dL_law_422 : decode cL_law 422 = .ok (.iconst 4, 1) := by decide +kernel
theorem dL_law_423 : decode cL_law 423 = .ok (.iadd, 1) := by decide +kernel
theorem dL_law_424 : decode cL_law 424 = .ok (.iaload, 1) := by decide +kernel
theorem dL_law_425 : decode cL_law 425 = .ok (.aload_n 0, 1) := by decide +kernel
theorem dL_law_426 : decode cL_law 426 = .ok (.iload 4, 2) := by decide +kernel
theorem dL_law_428 : decode cL_law 428 = .ok (.iconst 5, 1) := by decide +kernel
theorem dL_law_429 : decode cL_law 429 = .ok (.iadd, 1) := by decide +kernel
theorem dL_law_430 : decode cL_law 430 = .ok (.iaload, 1) := by decide +kernel
theorem dL_law_431 : decode cL_law 431 = .ok (.aload_n 0, 1) := by decide +kernel
theorem dL_law_432 : decode cL_law 432 = .ok (.iload 4, 2) := by decide +kernel
theorem dL_law_434 : decode cL_law 434 = .ok (.bipush 6, 2) := by decide +kernel
theorem dL_law_436 : decode cL_law 436 = .ok (.iadd, 1) := by decide +kernel
theorem dL_law_437 : decode cL_law 437 = .ok (.iaload, 1) := by decide +kernel
theorem dL_law_438 : decode cL_law 438 = .ok (.aload_n 3, 1) := by decide +kernel
theorem dL_law_439 : decode cL_law 439 = .ok (.invokestatic 95, 3) := by decide +kernel
theorem dL_law_442 : decode cL_law 442 = .ok (.istore 5, 2) := by decide +kernel
theorem dL_law_444 : decode cL_law 444 = .ok (.aload_n 2, 1) := by decide +kernel
theorem dL_law_445 : decode cL_law 445 = .ok (.aload_n 0, 1) := by decide +kernel
theorem dL_law_446 : decode cL_law 446 = .ok (.iload 4, 2) := by decide +kernel
theorem dL_law_448 : decode cL_law 448 = .ok (.iconst 1, 1) := by decide +kernel
theorem dL_law_449 : decode cL_law 449 = .ok (.iadd, 1) := by decide +kernel
theorem dL_law_450 : decode cL_law 450 = .ok (.iaload, 1) := by decide +kernel
theorem dL_law_451 : decode cL_law 451 = .ok (.aload_n 0, 1) := by decide +kernel
theorem dL_law_452 : decode cL_law 452 = .ok (.iload 4, 2) := by decide +kernel
theorem dL_law_454 : decode cL_law 454 = .ok (.iconst 2, 1) := by decide +kernel
theorem dL_law_455 : decode cL_law 455 = .ok (.iadd, 1) := by decide +kernel
theorem dL_law_456 : decode cL_law 456 = .ok (.iaload, 1) := by decide +kernel
theorem dL_law_457 : decode cL_law 457 = .ok (.aload_n 0, 1) := by decide +kernel
theorem dL_law_458 : decode cL_law 458 = .ok (.iload 4, 2) := by decide +kernel
theorem dL_law_460 : decode cL_law 460 = .ok (.iconst 3, 1) := by decide +kernel
theorem dL_law_461 : decode cL_law 461 = .ok (.iadd, 1) := by decide +kernel
theorem dL_law_462 : decode cL_law 462 = .ok (.iaload, 1) := by decide +kernel
theorem dL_law_463 : decode cL_law 463 = .ok (.aload_n 0, 1) := by decide +kernel
theorem dL_law_464 : decode cL_law 464 = .ok (.iload 4, 2) := by decide +kernel
theorem dL_law_466 : decode cL_law 466 = .ok (.iconst 4, 1) := by decide +kernel
theorem dL_law_467 : decode cL_law 467 = .ok (.iadd, 1) := by decide +kernel
theorem dL_law_468 : decode cL_law 468 = .ok (.iaload, 1) := by decide +kernel
theorem dL_law_469 : decode cL_law 469 = .ok (.aload_n 0, 1) := by decide +kernel
theorem dL_law_470 : decode cL_law 470 = .ok (.iload 4, 2) := by decide +kernel
theorem dL_law_472 : decode cL_law 472 = .ok (.iconst 5, 1) := by decide +kernel
theorem dL_law_473 : decode cL_law 473 = .ok (.iadd, 1) := by decide +kernel
theorem dL_law_474 : decode cL_law 474 = .ok (.iaload, 1) := by decide +kernel
theorem dL_law_475 : decode cL_law 475 = .ok (.aload_n 0, 1) := by decide +kernel
theorem dL_law_476 : decode cL_law 476 = .ok (.iload 4, 2) := by decide +kernel
theorem dL_law_478 : decode cL_law 478 = .ok (.bipush 6, 2) := by decide +kernel
theorem dL_law_480 : decode cL_law 480 = .ok (.iadd, 1) := by decide +kernel
theorem dL_law_481 : decode cL_law 481 = .ok (.iaload, 1) := by decide +kernel
theorem dL_law_482 : decode cL_law 482 = .ok (.invokevirtual 98, 3) := by decide +kernel
theorem dL_law_485 : decode cL_law 485 = .ok (.istore 6, 2) := by decide +kernel
theorem dL_law_487 : decode cL_law 487 = .ok (.aload_n 2, 1) := by decide +kernel
theorem dL_law_488 : decode cL_law 488 = .ok (.invokevirtual 84, 3) := by decide +kernel
theorem dL_law_491 : decode cL_law 491 = .ok (.iload 5, 2) := by decide +kernel
theorem dL_law_493 : decode cL_law 493 = .ok (.if_icmp .eq 5, 3) := by decide +kernel
theorem dL_law_496 : decode cL_law 496 = .ok (.iconst 0, 1) := by decide +kernel
theorem dL_law_497 : decode cL_law 497 = .ok (.ireturn, 1) := by decide +kernel
theorem dL_law_498 : decode cL_law 498 = .ok (.iload 5, 2) := by decide +kernel
theorem dL_law_500 : decode cL_law 500 = .ok (.ifCond .ne 15, 3) := by decide +kernel
theorem dL_law_503 : decode cL_law 503 = .ok (.aload_n 3, 1) := by decide +kernel
theorem dL_law_504 : decode cL_law 504 = .ok (.iconst 0, 1) := by decide +kernel
theorem dL_law_505 : decode cL_law 505 = .ok (.laload, 1) := by decide +kernel
theorem dL_law_506 : decode cL_law 506 = .ok (.iload 6, 2) := by decide +kernel
theorem dL_law_508 : decode cL_law 508 = .ok (.i2l, 1) := by decide +kernel
theorem dL_law_509 : decode cL_law 509 = .ok (.lcmp, 1) := by decide +kernel
theorem dL_law_510 : decode cL_law 510 = .ok (.ifCond .eq 5, 3) := by decide +kernel
theorem dL_law_513 : decode cL_law 513 = .ok (.iconst 0, 1) := by decide +kernel
theorem dL_law_514 : decode cL_law 514 = .ok (.ireturn, 1) := by decide +kernel
theorem dL_law_515 : decode cL_law 515 = .ok (.goto 1011, 3) := by decide +kernel
theorem dL_law_518 : decode cL_law 518 = .ok (.aload_n 1, 1) := by decide +kernel
theorem dL_law_519 : decode cL_law 519 = .ok (.aload_n 0, 1) := by decide +kernel
theorem dL_law_520 : decode cL_law 520 = .ok (.iload 4, 2) := by decide +kernel
theorem dL_law_522 : decode cL_law 522 = .ok (.iconst 1, 1) := by decide +kernel
theorem dL_law_523 : decode cL_law 523 = .ok (.iadd, 1) := by decide +kernel
theorem dL_law_524 : decode cL_law 524 = .ok (.iaload, 1) := by decide +kernel
theorem dL_law_525 : decode cL_law 525 = .ok (.aload_n 3, 1) := by decide +kernel
theorem dL_law_526 : decode cL_law 526 = .ok (.invokestatic 99, 3) := by decide +kernel
theorem dL_law_529 : decode cL_law 529 = .ok (.istore 5, 2) := by decide +kernel
theorem dL_law_531 : decode cL_law 531 = .ok (.aload_n 2, 1) := by decide +kernel
theorem dL_law_532 : decode cL_law 532 = .ok (.aload_n 0, 1) := by decide +kernel
theorem dL_law_533 : decode cL_law 533 = .ok (.iload 4, 2) := by decide +kernel
theorem dL_law_535 : decode cL_law 535 = .ok (.iconst 1, 1) := by decide +kernel
theorem dL_law_536 : decode cL_law 536 = .ok (.iadd, 1) := by decide +kernel
theorem dL_law_537 : decode cL_law 537 = .ok (.iaload, 1) := by decide +kernel
theorem dL_law_538 : decode cL_law 538 = .ok (.invokevirtual 102, 3) := by decide +kernel
theorem dL_law_541 : decode cL_law 541 = .ok (.istore 6, 2) := by decide +kernel
theorem dL_law_543 : decode cL_law 543 = .ok (.aload_n 2, 1) := by decide +kernel
theorem dL_law_544 : decode cL_law 544 = .ok (.invokevirtual 84, 3) := by decide +kernel
theorem dL_law_547 : decode cL_law 547 = .ok (.iload 5, 2) := by decide +kernel
theorem dL_law_549 : decode cL_law 549 = .ok (.if_icmp .eq 5, 3) := by decide +kernel
theorem dL_law_552 : decode cL_law 552 = .ok (.iconst 0, 1) := by decide +kernel
theorem dL_law_553 : decode cL_law 553 = .ok (.ireturn, 1) := by decide +kernel
theorem dL_law_554 : decode cL_law 554 = .ok (.iload 5, 2) := by decide +kernel
theorem dL_law_556 : decode cL_law 556 = .ok (.ifCond .ne 15, 3) := by decide +kernel
theorem dL_law_559 : decode cL_law 559 = .ok (.aload_n 3, 1) := by decide +kernel
theorem dL_law_560 : decode cL_law 560 = .ok (.iconst 0, 1) := by decide +kernel
theorem dL_law_561 : decode cL_law 561 = .ok (.laload, 1) := by decide +kernel
theorem dL_law_562 : decode cL_law 562 = .ok (.iload 6, 2) := by decide +kernel
theorem dL_law_564 : decode cL_law 564 = .ok (.i2l, 1) := by decide +kernel
theorem dL_law_565 : decode cL_law 565 = .ok (.lcmp, 1) := by decide +kernel
theorem dL_law_566 : decode cL_law 566 = .ok (.ifCond .eq 5, 3) := by decide +kernel
theorem dL_law_569 : decode cL_law 569 = .ok (.iconst 0, 1) := by decide +kernel
theorem dL_law_570 : decode cL_law 570 = .ok (.ireturn, 1) := by decide +kernel
theorem dL_law_571 : decode cL_law 571 = .ok (.goto 955, 3) := by decide +kernel
theorem dL_law_574 : decode cL_law 574 = .ok (.aload_n 1, 1) := by decide +kernel
theorem dL_law_575 : decode cL_law 575 = .ok (.aload_n 0, 1) := by decide +kernel
theorem dL_law_576 : decode cL_law 576 = .ok (.iload 4, 2) := by decide +kernel
theorem dL_law_578 : decode cL_law 578 = .ok (.iconst 1, 1) := by decide +kernel
theorem dL_law_579 : decode cL_law 579 = .ok (.iadd, 1) := by decide +kernel
theorem dL_law_580 : decode cL_law 580 = .ok (.iaload, 1) := by decide +kernel
theorem dL_law_581 : decode cL_law 581 = .ok (.aload_n 0, 1) := by decide +kernel
theorem dL_law_582 : decode cL_law 582 = .ok (.iload 4, 2) := by decide +kernel
theorem dL_law_584 : decode cL_law 584 = .ok (.iconst 2, 1) := by decide +kernel
theorem dL_law_585 : decode cL_law 585 = .ok (.iadd, 1) := by decide +kernel
theorem dL_law_586 : decode cL_law 586 = .ok (.iaload, 1) := by decide +kernel
theorem dL_law_587 : decode cL_law 587 = .ok (.aload_n 3, 1) := by decide +kernel
theorem dL_law_588 : decode cL_law 588 = .ok (.invokestatic 103, 3) := by decide +kernel
theorem dL_law_591 : decode cL_law 591 = .ok (.istore 5, 2) := by decide +kernel
theorem dL_law_593 : decode cL_law 593 = .ok (.aload_n 2, 1) := by decide +kernel
theorem dL_law_594 : decode cL_law 594 = .ok (.aload_n 0, 1) := by decide +kernel
theorem dL_law_595 : decode cL_law 595 = .ok (.iload 4, 2) := by decide +kernel
theorem dL_law_597 : decode cL_law 597 = .ok (.iconst 1, 1) := by decide +kernel
theorem dL_law_598 : decode cL_law 598 = .ok (.iadd, 1) := by decide +kernel
theorem dL_law_599 : decode cL_law 599 = .ok (.iaload, 1) := by decide +kernel
theorem dL_law_600 : decode cL_law 600 = .ok (.aload_n 0, 1) := by decide +kernel
theorem dL_law_601 : decode cL_law 601 = .ok (.iload 4, 2) := by decide +kernel
theorem dL_law_603 : decode cL_law 603 = .ok (.iconst 2, 1) := by decide +kernel
theorem dL_law_604 : decode cL_law 604 = .ok (.iadd, 1) := by decide +kernel
theorem dL_law_605 : decode cL_law 605 = .ok (.iaload, 1) := by decide +kernel
theorem dL_law_606 : decode cL_law 606 = .ok (.invokevirtual 105, 3) := by decide +kernel
theorem dL_law_609 : decode cL_law 609 = .ok (.istore 6, 2) := by decide +kernel
theorem dL_law_611 : decode cL_law 611 = .ok (.aload_n 2, 1) := by decide +kernel
theorem dL_law_612 : decode cL_law 612 = .ok (.invokevirtual 84, 3) := by decide +kernel
theorem dL_law_615 : decode cL_law 615 = .ok (.iload 5, 2) := by decide +kernel
theorem dL_law_617 : decode cL_law 617 = .ok (.if_icmp .eq 5, 3) := by decide +kernel
theorem dL_law_620 : decode cL_law 620 = .ok (.iconst 0, 1) := by decide +kernel
theorem dL_law_621 : decode cL_law 621 = .ok (.ireturn, 1) := by decide +kernel
theorem dL_law_622 : decode cL_law 622 = .ok (.iload 5, 2) := by decide +kernel
theorem dL_law_624 : decode cL_law 624 = .ok (.ifCond .ne 15, 3) := by decide +kernel
theorem dL_law_627 : decode cL_law 627 = .ok (.aload_n 3, 1) := by decide +kernel
theorem dL_law_628 : decode cL_law 628 = .ok (.iconst 0, 1) := by decide +kernel
theorem dL_law_629 : decode cL_law 629 = .ok (.laload, 1) := by decide +kernel
theorem dL_law_630 : decode cL_law 630 = .ok (.iload 6, 2) := by decide +kernel
theorem dL_law_632 : decode cL_law 632 = .ok (.i2l, 1) := by decide +kernel
theorem dL_law_633 : decode cL_law 633 = .ok (.lcmp, 1) := by decide +kernel
theorem dL_law_634 : decode cL_law 634 = .ok (.ifCond .eq 5, 3) := by decide +kernel
theorem dL_law_637 : decode cL_law 637 = .ok (.iconst 0, 1) := by decide +kernel
theorem dL_law_638 : decode cL_law 638 = .ok (.ireturn, 1) := by decide +kernel
theorem dL_law_639 : decode cL_law 639 = .ok (.goto 887, 3) := by decide +kernel
theorem dL_law_642 : decode cL_law 642 = .ok (.aload_n 1, 1) := by decide +kernel
theorem dL_law_643 : decode cL_law 643 = .ok (.aload_n 0, 1) := by decide +kernel
theorem dL_law_644 : decode cL_law 644 = .ok (.iload 4, 2) := by decide +kernel
theorem dL_law_646 : decode cL_law 646 = .ok (.iconst 1, 1) := by decide +kernel
theorem dL_law_647 : decode cL_law 647 = .ok (.iadd, 1) := by decide +kernel
theorem dL_law_648 : decode cL_law 648 = .ok (.iaload, 1) := by decide +kernel
theorem dL_law_649 : decode cL_law 649 = .ok (.aload_n 0, 1) := by decide +kernel
theorem dL_law_650 : decode cL_law 650 = .ok (.iload 4, 2) := by decide +kernel
theorem dL_law_652 : decode cL_law 652 = .ok (.iconst 2, 1) := by decide +kernel
theorem dL_law_653 : decode cL_law 653 = .ok (.iadd, 1) := by decide +kernel
theorem dL_law_654 : decode cL_law 654 = .ok (.iaload, 1) := by decide +kernel
theorem dL_law_655 : decode cL_law 655 = .ok (.aload_n 3, 1) := by decide +kernel
theorem dL_law_656 : decode cL_law 656 = .ok (.invokestatic 106, 3) := by decide +kernel
theorem dL_law_659 : decode cL_law 659 = .ok (.istore 5, 2) := by decide +kernel
theorem dL_law_661 : decode cL_law 661 = .ok (.aload_n 2, 1) := by decide +kernel
theorem dL_law_662 : decode cL_law 662 = .ok (.aload_n 0, 1) := by decide +kernel
theorem dL_law_663 : decode cL_law 663 = .ok (.iload 4, 2) := by decide +kernel
theorem dL_law_665 : decode cL_law 665 = .ok (.iconst 1, 1) := by decide +kernel
theorem dL_law_666 : decode cL_law 666 = .ok (.iadd, 1) := by decide +kernel
theorem dL_law_667 : decode cL_law 667 = .ok (.iaload, 1) := by decide +kernel
theorem dL_law_668 : decode cL_law 668 = .ok (.aload_n 0, 1) := by decide +kernel
theorem dL_law_669 : decode cL_law 669 = .ok (.iload 4, 2) := by decide +kernel
theorem dL_law_671 : decode cL_law 671 = .ok (.iconst 2, 1) := by decide +kernel
theorem dL_law_672 : decode cL_law 672 = .ok (.iadd, 1) := by decide +kernel
theorem dL_law_673 : decode cL_law 673 = .ok (.iaload, 1) := by decide +kernel
theorem dL_law_674 : decode cL_law 674 = .ok (.invokevirtual 108, 3) := by decide +kernel
theorem dL_law_677 : decode cL_law 677 = .ok (.istore 6, 2) := by decide +kernel
theorem dL_law_679 : decode cL_law 679 = .ok (.aload_n 2, 1) := by decide +kernel
theorem dL_law_680 : decode cL_law 680 = .ok (.invokevirtual 84, 3) := by decide +kernel
theorem dL_law_683 : decode cL_law 683 = .ok (.iload 5, 2) := by decide +kernel
theorem dL_law_685 : decode cL_law 685 = .ok (.if_icmp .eq 5, 3) := by decide +kernel
theorem dL_law_688 : decode cL_law 688 = .ok (.iconst 0, 1) := by decide +kernel
theorem dL_law_689 : decode cL_law 689 = .ok (.ireturn, 1) := by decide +kernel
theorem dL_law_690 : decode cL_law 690 = .ok (.iload 5, 2) := by decide +kernel
theorem dL_law_692 : decode cL_law 692 = .ok (.ifCond .ne 15, 3) := by decide +kernel
theorem dL_law_695 : decode cL_law 695 = .ok (.aload_n 3, 1) := by decide +kernel
theorem dL_law_696 : decode cL_law 696 = .ok (.iconst 0, 1) := by decide +kernel
theorem dL_law_697 : decode cL_law 697 = .ok (.laload, 1) := by decide +kernel
theorem dL_law_698 : decode cL_law 698 = .ok (.iload 6, 2) := by decide +kernel
theorem dL_law_700 : decode cL_law 700 = .ok (.i2l, 1) := by decide +kernel
theorem dL_law_701 : decode cL_law 701 = .ok (.lcmp, 1) := by decide +kernel
theorem dL_law_702 : decode cL_law 702 = .ok (.ifCond .eq 5, 3) := by decide +kernel
theorem dL_law_705 : decode cL_law 705 = .ok (.iconst 0, 1) := by decide +kernel
theorem dL_law_706 : decode cL_law 706 = .ok (.ireturn, 1) := by decide +kernel
theorem dL_law_707 : decode cL_law 707 = .ok (.goto 819, 3) := by decide +kernel
theorem dL_law_710 : decode cL_law 710 = .ok (.aload_n 1, 1) := by decide +kernel
theorem dL_law_711 : decode cL_law 711 = .ok (.aload_n 0, 1) := by decide +kernel
theorem dL_law_712 : decode cL_law 712 = .ok (.iload 4, 2) := by decide +kernel
theorem dL_law_714 : decode cL_law 714 = .ok (.iconst 1, 1) := by decide +kernel
theorem dL_law_715 : decode cL_law 715 = .ok (.iadd, 1) := by decide +kernel
theorem dL_law_716 : decode cL_law 716 = .ok (.iaload, 1) := by decide +kernel
theorem dL_law_717 : decode cL_law 717 = .ok (.aload_n 0, 1) := by decide +kernel
theorem dL_law_718 : decode cL_law 718 = .ok (.iload 4, 2) := by decide +kernel
theorem dL_law_720 : decode cL_law 720 = .ok (.iconst 2, 1) := by decide +kernel
theorem dL_law_721 : decode cL_law 721 = .ok (.iadd, 1) := by decide +kernel
end
section
theorem dL_law_722 : decode cL_law 722 = .ok (.iaload, 1) := by decide +kernel
theorem dL_law_723 : decode cL_law 723 = .ok (.aload_n 3, 1) := by decide +kernel
theorem dL_law_724 : decode cL_law 724 = .ok (.invokestatic 109, 3) := by decide +kernel
theorem dL_law_727 : decode cL_law 727 = .ok (.istore 5, 2) := by decide +kernel
theorem dL_law_729 : decode cL_law 729 = .ok (.aload_n 2, 1) := by decide +kernel
theorem dL_law_730 : decode cL_law 730 = .ok (.aload_n 0, 1) := by decide +kernel
theorem dL_law_731 : decode cL_law 731 = .ok (.iload 4, 2) := by decide +kernel
theorem dL_law_733 : decode cL_law 733 = .ok (.iconst 1, 1) := by decide +kernel
theorem dL_law_734 : decode cL_law 734 = .ok (.iadd, 1) := by decide +kernel
theorem dL_law_735 : decode cL_law 735 = .ok (.iaload, 1) := by decide +kernel
theorem dL_law_736 : decode cL_law 736 = .ok (.aload_n 0, 1) := by decide +kernel
theorem dL_law_737 : decode cL_law 737 = .ok (.iload 4, 2) := by decide +kernel
theorem dL_law_739 : decode cL_law 739 = .ok (.iconst 2, 1) := by decide +kernel
theorem dL_law_740 : decode cL_law 740 = .ok (.iadd, 1) := by decide +kernel
theorem dL_law_741 : decode cL_law 741 = .ok (.iaload, 1) := by decide +kernel
theorem dL_law_742 : decode cL_law 742 = .ok (.invokevirtual 111, 3) := by decide +kernel
theorem dL_law_745 : decode cL_law 745 = .ok (.istore 6, 2) := by decide +kernel
theorem dL_law_747 : decode cL_law 747 = .ok (.aload_n 2, 1) := by decide +kernel
theorem dL_law_748 : decode cL_law 748 = .ok (.invokevirtual 84, 3) := by decide +kernel
theorem dL_law_751 : decode cL_law 751 = .ok (.iload 5, 2) := by decide +kernel
theorem dL_law_753 : decode cL_law 753 = .ok (.if_icmp .eq 5, 3) := by decide +kernel
theorem dL_law_756 : decode cL_law 756 = .ok (.iconst 0, 1) := by decide +kernel
theorem dL_law_757 : decode cL_law 757 = .ok (.ireturn, 1) := by decide +kernel
theorem dL_law_758 : decode cL_law 758 = .ok (.iload 5, 2) := by decide +kernel
theorem dL_law_760 : decode cL_law 760 = .ok (.ifCond .ne 15, 3) := by decide +kernel
theorem dL_law_763 : decode cL_law 763 = .ok (.aload_n 3, 1) := by decide +kernel
theorem dL_law_764 : decode cL_law 764 = .ok (.iconst 0, 1) := by decide +kernel
theorem dL_law_765 : decode cL_law 765 = .ok (.laload, 1) := by decide +kernel
theorem dL_law_766 : decode cL_law 766 = .ok (.iload 6, 2) := by decide +kernel
theorem dL_law_768 : decode cL_law 768 = .ok (.i2l, 1) := by decide +kernel
theorem dL_law_769 : decode cL_law 769 = .ok (.lcmp, 1) := by decide +kernel
theorem dL_law_770 : decode cL_law 770 = .ok (.ifCond .eq 5, 3) := by decide +kernel
theorem dL_law_773 : decode cL_law 773 = .ok (.iconst 0, 1) := by decide +kernel
theorem dL_law_774 : decode cL_law 774 = .ok (.ireturn, 1) := by decide +kernel
theorem dL_law_775 : decode cL_law 775 = .ok (.goto 751, 3) := by decide +kernel
theorem dL_law_778 : decode cL_law 778 = .ok (.aload_n 1, 1) := by decide +kernel
theorem dL_law_779 : decode cL_law 779 = .ok (.aload_n 0, 1) := by decide +kernel
theorem dL_law_780 : decode cL_law 780 = .ok (.iload 4, 2) := by decide +kernel
theorem dL_law_782 : decode cL_law 782 = .ok (.iconst 1, 1) := by decide +kernel
theorem dL_law_783 : decode cL_law 783 = .ok (.iadd, 1) := by decide +kernel
theorem dL_law_784 : decode cL_law 784 = .ok (.iaload, 1) := by decide +kernel
theorem dL_law_785 : decode cL_law 785 = .ok (.aload_n 0, 1) := by decide +kernel
theorem dL_law_786 : decode cL_law 786 = .ok (.iload 4, 2) := by decide +kernel
theorem dL_law_788 : decode cL_law 788 = .ok (.iconst 2, 1) := by decide +kernel
theorem dL_law_789 : decode cL_law 789 = .ok (.iadd, 1) := by decide +kernel
theorem dL_law_790 : decode cL_law 790 = .ok (.iaload, 1) := by decide +kernel
theorem dL_law_791 : decode cL_law 791 = .ok (.aload_n 0, 1) := by decide +kernel
theorem dL_law_792 : decode cL_law 792 = .ok (.iload 4, 2) := by decide +kernel
theorem dL_law_794 : decode cL_law 794 = .ok (.iconst 3, 1) := by decide +kernel
theorem dL_law_795 : decode cL_law 795 = .ok (.iadd, 1) := by decide +kernel
theorem dL_law_796 : decode cL_law 796 = .ok (.iaload, 1) := by decide +kernel
theorem dL_law_797 : decode cL_law 797 = .ok (.aload_n 0, 1) := by decide +kernel
theorem dL_law_798 : decode cL_law 798 = .ok (.iload 4, 2) := by decide +kernel
theorem dL_law_800 : decode cL_law 800 = .ok (.iconst 4, 1) := by decide +kernel
theorem dL_law_801 : decode cL_law 801 = .ok (.iadd, 1) := by decide +kernel
theorem dL_law_802 : decode cL_law 802 = .ok (.iaload, 1) := by decide +kernel
theorem dL_law_803 : decode cL_law 803 = .ok (.aload_n 3, 1) := by decide +kernel
theorem dL_law_804 : decode cL_law 804 = .ok (.invokestatic 112, 3) := by decide +kernel
theorem dL_law_807 : decode cL_law 807 = .ok (.istore 5, 2) := by decide +kernel
theorem dL_law_809 : decode cL_law 809 = .ok (.aload_n 2, 1) := by decide +kernel
theorem dL_law_810 : decode cL_law 810 = .ok (.aload_n 0, 1) := by decide +kernel
theorem dL_law_811 : decode cL_law 811 = .ok (.iload 4, 2) := by decide +kernel
theorem dL_law_813 : decode cL_law 813 = .ok (.iconst 1, 1) := by decide +kernel
theorem dL_law_814 : decode cL_law 814 = .ok (.iadd, 1) := by decide +kernel
theorem dL_law_815 : decode cL_law 815 = .ok (.iaload, 1) := by decide +kernel
theorem dL_law_816 : decode cL_law 816 = .ok (.aload_n 0, 1) := by decide +kernel
theorem dL_law_817 : decode cL_law 817 = .ok (.iload 4, 2) := by decide +kernel
theorem dL_law_819 : decode cL_law 819 = .ok (.iconst 2, 1) := by decide +kernel
theorem dL_law_820 : decode cL_law 820 = .ok (.iadd, 1) := by decide +kernel
theorem dL_law_821 : decode cL_law 821 = .ok (.iaload, 1) := by decide +kernel
theorem dL_law_822 : decode cL_law 822 = .ok (.aload_n 0, 1) := by decide +kernel
theorem dL_law_823 : decode cL_law 823 = .ok (.iload 4, 2) := by decide +kernel
theorem dL_law_825 : decode cL_law 825 = .ok (.iconst 3, 1) := by decide +kernel
theorem dL_law_826 : decode cL_law 826 = .ok (.iadd, 1) := by decide +kernel
theorem dL_law_827 : decode cL_law 827 = .ok (.iaload, 1) := by decide +kernel
theorem dL_law_828 : decode cL_law 828 = .ok (.aload_n 0, 1) := by decide +kernel
theorem dL_law_829 : decode cL_law 829 = .ok (.iload 4, 2) := by decide +kernel
theorem dL_law_831 : decode cL_law 831 = .ok (.iconst 4, 1) := by decide +kernel
theorem dL_law_832 : decode cL_law 832 = .ok (.iadd, 1) := by decide +kernel
theorem dL_law_833 : decode cL_law 833 = .ok (.iaload, 1) := by decide +kernel
theorem dL_law_834 : decode cL_law 834 = .ok (.invokevirtual 115, 3) := by decide +kernel
theorem dL_law_837 : decode cL_law 837 = .ok (.istore 6, 2) := by decide +kernel
theorem dL_law_839 : decode cL_law 839 = .ok (.aload_n 2, 1) := by decide +kernel
theorem dL_law_840 : decode cL_law 840 = .ok (.invokevirtual 84, 3) := by decide +kernel
theorem dL_law_843 : decode cL_law 843 = .ok (.iload 5, 2) := by decide +kernel
theorem dL_law_845 : decode cL_law 845 = .ok (.if_icmp .eq 5, 3) := by decide +kernel
theorem dL_law_848 : decode cL_law 848 = .ok (.iconst 0, 1) := by decide +kernel
theorem dL_law_849 : decode cL_law 849 = .ok (.ireturn, 1) := by decide +kernel
theorem dL_law_850 : decode cL_law 850 = .ok (.iload 5, 2) := by decide +kernel
theorem dL_law_852 : decode cL_law 852 = .ok (.ifCond .ne 15, 3) := by decide +kernel
theorem dL_law_855 : decode cL_law 855 = .ok (.aload_n 3, 1) := by decide +kernel
theorem dL_law_856 : decode cL_law 856 = .ok (.iconst 0, 1) := by decide +kernel
theorem dL_law_857 : decode cL_law 857 = .ok (.laload, 1) := by decide +kernel
theorem dL_law_858 : decode cL_law 858 = .ok (.iload 6, 2) := by decide +kernel
theorem dL_law_860 : decode cL_law 860 = .ok (.i2l, 1) := by decide +kernel
theorem dL_law_861 : decode cL_law 861 = .ok (.lcmp, 1) := by decide +kernel
theorem dL_law_862 : decode cL_law 862 = .ok (.ifCond .eq 5, 3) := by decide +kernel
theorem dL_law_865 : decode cL_law 865 = .ok (.iconst 0, 1) := by decide +kernel
theorem dL_law_866 : decode cL_law 866 = .ok (.ireturn, 1) := by decide +kernel
theorem dL_law_867 : decode cL_law 867 = .ok (.goto 659, 3) := by decide +kernel
theorem dL_law_870 : decode cL_law 870 = .ok (.aload_n 1, 1) := by decide +kernel
theorem dL_law_871 : decode cL_law 871 = .ok (.aload_n 0, 1) := by decide +kernel
theorem dL_law_872 : decode cL_law 872 = .ok (.iload 4, 2) := by decide +kernel
theorem dL_law_874 : decode cL_law 874 = .ok (.iconst 1, 1) := by decide +kernel
theorem dL_law_875 : decode cL_law 875 = .ok (.iadd, 1) := by decide +kernel
theorem dL_law_876 : decode cL_law 876 = .ok (.iaload, 1) := by decide +kernel
theorem dL_law_877 : decode cL_law 877 = .ok (.aload_n 0, 1) := by decide +kernel
theorem dL_law_878 : decode cL_law 878 = .ok (.iload 4, 2) := by decide +kernel
theorem dL_law_880 : decode cL_law 880 = .ok (.iconst 2, 1) := by decide +kernel
theorem dL_law_881 : decode cL_law 881 = .ok (.iadd, 1) := by decide +kernel
theorem dL_law_882 : decode cL_law 882 = .ok (.iaload, 1) := by decide +kernel
theorem dL_law_883 : decode cL_law 883 = .ok (.aload_n 3, 1) := by decide +kernel
theorem dL_law_884 : decode cL_law 884 = .ok (.invokestatic 116, 3) := by decide +kernel
theorem dL_law_887 : decode cL_law 887 = .ok (.istore 5, 2) := by decide +kernel
theorem dL_law_889 : decode cL_law 889 = .ok (.aload_n 2, 1) := by decide +kernel
theorem dL_law_890 : decode cL_law 890 = .ok (.aload_n 0, 1) := by decide +kernel
theorem dL_law_891 : decode cL_law 891 = .ok (.iload 4, 2) := by decide +kernel
theorem dL_law_893 : decode cL_law 893 = .ok (.iconst 1, 1) := by decide +kernel
theorem dL_law_894 : decode cL_law 894 = .ok (.iadd, 1) := by decide +kernel
theorem dL_law_895 : decode cL_law 895 = .ok (.iaload, 1) := by decide +kernel
theorem dL_law_896 : decode cL_law 896 = .ok (.aload_n 0, 1) := by decide +kernel
theorem dL_law_897 : decode cL_law 897 = .ok (.iload 4, 2) := by decide +kernel
theorem dL_law_899 : decode cL_law 899 = .ok (.iconst 2, 1) := by decide +kernel
theorem dL_law_900 : decode cL_law 900 = .ok (.iadd, 1) := by decide +kernel
theorem dL_law_901 : decode cL_law 901 = .ok (.iaload, 1) := by decide +kernel
theorem dL_law_902 : decode cL_law 902 = .ok (.invokevirtual 118, 3) := by decide +kernel
theorem dL_law_905 : decode cL_law 905 = .ok (.istore 6, 2) := by decide +kernel
theorem dL_law_907 : decode cL_law 907 = .ok (.aload_n 2, 1) := by decide +kernel
theorem dL_law_908 : decode cL_law 908 = .ok (.invokevirtual 84, 3) := by decide +kernel
theorem dL_law_911 : decode cL_law 911 = .ok (.iload 5, 2) := by decide +kernel
theorem dL_law_913 : decode cL_law 913 = .ok (.if_icmp .eq 5, 3) := by decide +kernel
theorem dL_law_916 : decode cL_law 916 = .ok (.iconst 0, 1) := by decide +kernel
theorem dL_law_917 : decode cL_law 917 = .ok (.ireturn, 1) := by decide +kernel
theorem dL_law_918 : decode cL_law 918 = .ok (.iload 5, 2) := by decide +kernel
theorem dL_law_920 : decode cL_law 920 = .ok (.ifCond .ne 15, 3) := by decide +kernel
theorem dL_law_923 : decode cL_law 923 = .ok (.aload_n 3, 1) := by decide +kernel
theorem dL_law_924 : decode cL_law 924 = .ok (.iconst 0, 1) := by decide +kernel
theorem dL_law_925 : decode cL_law 925 = .ok (.laload, 1) := by decide +kernel
theorem dL_law_926 : decode cL_law 926 = .ok (.iload 6, 2) := by decide +kernel
theorem dL_law_928 : decode cL_law 928 = .ok (.i2l, 1) := by decide +kernel
theorem dL_law_929 : decode cL_law 929 = .ok (.lcmp, 1) := by decide +kernel
theorem dL_law_930 : decode cL_law 930 = .ok (.ifCond .eq 5, 3) := by decide +kernel
theorem dL_law_933 : decode cL_law 933 = .ok (.iconst 0, 1) := by decide +kernel
theorem dL_law_934 : decode cL_law 934 = .ok (.ireturn, 1) := by decide +kernel
theorem dL_law_935 : decode cL_law 935 = .ok (.goto 591, 3) := by decide +kernel
theorem dL_law_938 : decode cL_law 938 = .ok (.aload_n 1, 1) := by decide +kernel
theorem dL_law_939 : decode cL_law 939 = .ok (.aload_n 0, 1) := by decide +kernel
theorem dL_law_940 : decode cL_law 940 = .ok (.iload 4, 2) := by decide +kernel
theorem dL_law_942 : decode cL_law 942 = .ok (.iconst 1, 1) := by decide +kernel
theorem dL_law_943 : decode cL_law 943 = .ok (.iadd, 1) := by decide +kernel
theorem dL_law_944 : decode cL_law 944 = .ok (.iaload, 1) := by decide +kernel
theorem dL_law_945 : decode cL_law 945 = .ok (.aload_n 0, 1) := by decide +kernel
theorem dL_law_946 : decode cL_law 946 = .ok (.iload 4, 2) := by decide +kernel
theorem dL_law_948 : decode cL_law 948 = .ok (.iconst 2, 1) := by decide +kernel
theorem dL_law_949 : decode cL_law 949 = .ok (.iadd, 1) := by decide +kernel
theorem dL_law_950 : decode cL_law 950 = .ok (.iaload, 1) := by decide +kernel
theorem dL_law_951 : decode cL_law 951 = .ok (.aload_n 3, 1) := by decide +kernel
theorem dL_law_952 : decode cL_law 952 = .ok (.invokestatic 119, 3) := by decide +kernel
theorem dL_law_955 : decode cL_law 955 = .ok (.istore 5, 2) := by decide +kernel
theorem dL_law_957 : decode cL_law 957 = .ok (.aload_n 2, 1) := by decide +kernel
theorem dL_law_958 : decode cL_law 958 = .ok (.aload_n 0, 1) := by decide +kernel
theorem dL_law_959 : decode cL_law 959 = .ok (.iload 4, 2) := by decide +kernel
theorem dL_law_961 : decode cL_law 961 = .ok (.iconst 1, 1) := by decide +kernel
theorem dL_law_962 : decode cL_law 962 = .ok (.iadd, 1) := by decide +kernel
theorem dL_law_963 : decode cL_law 963 = .ok (.iaload, 1) := by decide +kernel
theorem dL_law_964 : decode cL_law 964 = .ok (.aload_n 0, 1) := by decide +kernel
theorem dL_law_965 : decode cL_law 965 = .ok (.iload 4, 2) := by decide +kernel
theorem dL_law_967 : decode cL_law 967 = .ok (.iconst 2, 1) := by decide +kernel
theorem dL_law_968 : decode cL_law 968 = .ok (.iadd, 1) := by decide +kernel
theorem dL_law_969 : decode cL_law 969 = .ok (.iaload, 1) := by decide +kernel
theorem dL_law_970 : decode cL_law 970 = .ok (.invokevirtual 121, 3) := by decide +kernel
theorem dL_law_973 : decode cL_law 973 = .ok (.istore 6, 2) := by decide +kernel
theorem dL_law_975 : decode cL_law 975 = .ok (.aload_n 2, 1) := by decide +kernel
theorem dL_law_976 : decode cL_law 976 = .ok (.invokevirtual 84, 3) := by decide +kernel
theorem dL_law_979 : decode cL_law 979 = .ok (.iload 5, 2) := by decide +kernel
theorem dL_law_981 : decode cL_law 981 = .ok (.if_icmp .eq 5, 3) := by decide +kernel
theorem dL_law_984 : decode cL_law 984 = .ok (.iconst 0, 1) := by decide +kernel
theorem dL_law_985 : decode cL_law 985 = .ok (.ireturn, 1) := by decide +kernel
theorem dL_law_986 : decode cL_law 986 = .ok (.iload 5, 2) := by decide +kernel
theorem dL_law_988 : decode cL_law 988 = .ok (.ifCond .ne 15, 3) := by decide +kernel
theorem dL_law_991 : decode cL_law 991 = .ok (.aload_n 3, 1) := by decide +kernel
theorem dL_law_992 : decode cL_law 992 = .ok (.iconst 0, 1) := by decide +kernel
theorem dL_law_993 : decode cL_law 993 = .ok (.laload, 1) := by decide +kernel
theorem dL_law_994 : decode cL_law 994 = .ok (.iload 6, 2) := by decide +kernel
theorem dL_law_996 : decode cL_law 996 = .ok (.i2l, 1) := by decide +kernel
theorem dL_law_997 : decode cL_law 997 = .ok (.lcmp, 1) := by decide +kernel
theorem dL_law_998 : decode cL_law 998 = .ok (.ifCond .eq 5, 3) := by decide +kernel
theorem dL_law_1001 : decode cL_law 1001 = .ok (.iconst 0, 1) := by decide +kernel
theorem dL_law_1002 : decode cL_law 1002 = .ok (.ireturn, 1) := by decide +kernel
theorem dL_law_1003 : decode cL_law 1003 = .ok (.goto 523, 3) := by decide +kernel
theorem dL_law_1006 : decode cL_law 1006 = .ok (.aload_n 1, 1) := by decide +kernel
theorem dL_law_1007 : decode cL_law 1007 = .ok (.aload_n 0, 1) := by decide +kernel
theorem dL_law_1008 : decode cL_law 1008 = .ok (.iload 4, 2) := by decide +kernel
theorem dL_law_1010 : decode cL_law 1010 = .ok (.iconst 1, 1) := by decide +kernel
theorem dL_law_1011 : decode cL_law 1011 = .ok (.iadd, 1) := by decide +kernel
theorem dL_law_1012 : decode cL_law 1012 = .ok (.iaload, 1) := by decide +kernel
theorem dL_law_1013 : decode cL_law 1013 = .ok (.aload_n 0, 1) := by decide +kernel
theorem dL_law_1014 : decode cL_law 1014 = .ok (.iload 4, 2) := by decide +kernel
theorem dL_law_1016 : decode cL_law 1016 = .ok (.iconst 2, 1) := by decide +kernel
theorem dL_law_1017 : decode cL_law 1017 = .ok (.iadd, 1) := by decide +kernel
theorem dL_law_1018 : decode cL_law 1018 = .ok (.iaload, 1) := by decide +kernel
theorem dL_law_1019 : decode cL_law 1019 = .ok (.aload_n 3, 1) := by decide +kernel
theorem dL_law_1020 : decode cL_law 1020 = .ok (.invokestatic 122, 3) := by decide +kernel
theorem dL_law_1023 : decode cL_law 1023 = .ok (.istore 5, 2) := by decide +kernel
theorem dL_law_1025 : decode cL_law 1025 = .ok (.aload_n 2, 1) := by decide +kernel
theorem dL_law_1026 : decode cL_law 1026 = .ok (.aload_n 0, 1) := by decide +kernel
theorem dL_law_1027 : decode cL_law 1027 = .ok (.iload 4, 2) := by decide +kernel
theorem dL_law_1029 : decode cL_law 1029 = .ok (.iconst 1, 1) := by decide +kernel
theorem dL_law_1030 : decode cL_law 1030 = .ok (.iadd, 1) := by decide +kernel
theorem dL_law_1031 : decode cL_law 1031 = .ok (.iaload, 1) := by decide +kernel
theorem dL_law_1032 : decode cL_law 1032 = .ok (.aload_n 0, 1) := by decide +kernel
theorem dL_law_1033 : decode cL_law 1033 = .ok (.iload 4, 2) := by decide +kernel
theorem dL_law_1035 : decode cL_law 1035 = .ok (.iconst 2, 1) := by decide +kernel
theorem dL_law_1036 : decode cL_law 1036 = .ok (.iadd, 1) := by decide +kernel
theorem dL_law_1037 : decode cL_law 1037 = .ok (.iaload, 1) := by decide +kernel
theorem dL_law_1038 : decode cL_law 1038 = .ok (.invokevirtual 124, 3) := by decide +kernel
theorem dL_law_1041 : decode cL_law 1041 = .ok (.istore 6, 2) := by decide +kernel
theorem dL_law_1043 : decode cL_law 1043 = .ok (.aload_n 2, 1) := by decide +kernel
theorem dL_law_1044 : decode cL_law 1044 = .ok (.invokevirtual 84, 3) := by decide +kernel
theorem dL_law_1047 : decode cL_law 1047 = .ok (.iload 5, 2) := by decide +kernel
theorem dL_law_1049 : decode cL_law 1049 = .ok (.if_icmp .eq 5, 3) := by decide +kernel
theorem dL_law_1052 : decode cL_law 1052 = .ok (.iconst 0, 1) := by decide +kernel
theorem dL_law_1053 : decode cL_law 1053 = .ok (.ireturn, 1) := by decide +kernel
theorem dL_law_1054 : decode cL_law 1054 = .ok (.iload 5, 2) := by decide +kernel
theorem dL_law_1056 : decode cL_law 1056 = .ok (.ifCond .ne 15, 3) := by decide +kernel
theorem dL_law_1059 : decode cL_law 1059 = .ok (.aload_n 3, 1) := by decide +kernel
theorem dL_law_1060 : decode cL_law 1060 = .ok (.iconst 0, 1) := by decide +kernel
theorem dL_law_1061 : decode cL_law 1061 = .ok (.laload, 1) := by decide +kernel
theorem dL_law_1062 : decode cL_law 1062 = .ok (.iload 6, 2) := by decide +kernel
theorem dL_law_1064 : decode cL_law 1064 = .ok (.i2l, 1) := by decide +kernel
theorem dL_law_1065 : decode cL_law 1065 = .ok (.lcmp, 1) := by decide +kernel
theorem dL_law_1066 : decode cL_law 1066 = .ok (.ifCond .eq 5, 3) := by decide +kernel
theorem dL_law_1069 : decode cL_law 1069 = .ok (.iconst 0, 1) := by decide +kernel
theorem dL_law_1070 : decode cL_law 1070 = .ok (.ireturn, 1) := by decide +kernel
theorem dL_law_1071 : decode cL_law 1071 = .ok (.goto 455, 3) := by decide +kernel
theorem dL_law_1074 : decode cL_law 1074 = .ok (.aload_n 1, 1) := by decide +kernel
theorem dL_law_1075 : decode cL_law 1075 = .ok (.aload_n 0, 1) := by decide +kernel
theorem dL_law_1076 : decode cL_law 1076 = .ok (.iload 4, 2) := by decide +kernel
theorem dL_law_1078 : decode cL_law 1078 = .ok (.iconst 1, 1) := by decide +kernel
theorem dL_law_1079 : decode cL_law 1079 = .ok (.iadd, 1) := by decide +kernel
theorem dL_law_1080 : decode cL_law 1080 = .ok (.iaload, 1) := by decide +kernel
theorem dL_law_1081 : decode cL_law 1081 = .ok (.aload_n 3, 1) := by decide +kernel
theorem dL_law_1082 : decode cL_law 1082 = .ok (.invokestatic 125, 3) := by decide +kernel
theorem dL_law_1085 : decode cL_law 1085 = .ok (.istore 5, 2) := by decide +kernel
theorem dL_law_1087 : decode cL_law 1087 = .ok (.aload_n 2, 1) := by decide +kernel
theorem dL_law_1088 : decode cL_law 1088 = .ok (.aload_n 0, 1) := by decide +kernel
theorem dL_law_1089 : decode cL_law 1089 = .ok (.iload 4, 2) := by decide +kernel
theorem dL_law_1091 : decode cL_law 1091 = .ok (.iconst 1, 1) := by decide +kernel
theorem dL_law_1092 : decode cL_law 1092 = .ok (.iadd, 1) := by decide +kernel
theorem dL_law_1093 : decode cL_law 1093 = .ok (.iaload, 1) := by decide +kernel
theorem dL_law_1094 : decode cL_law 1094 = .ok (.invokevirtual 127, 3) := by decide +kernel
theorem dL_law_1097 : decode cL_law 1097 = .ok (.istore 6, 2) := by decide +kernel
theorem dL_law_1099 : decode cL_law 1099 = .ok (.aload_n 2, 1) := by decide +kernel
theorem dL_law_1100 : decode cL_law 1100 = .ok (.invokevirtual 84, 3) := by decide +kernel
theorem dL_law_1103 : decode cL_law 1103 = .ok (.iload 5, 2) := by decide +kernel
theorem dL_law_1105 : decode cL_law 1105 = .ok (.if_icmp .eq 5, 3) := by decide +kernel
theorem dL_law_1108 : decode cL_law 1108 = .ok (.iconst 0, 1) := by decide +kernel
theorem dL_law_1109 : decode cL_law 1109 = .ok (.ireturn, 1) := by decide +kernel
theorem dL_law_1110 : decode cL_law 1110 = .ok (.iload 5, 2) := by decide +kernel
theorem dL_law_1112 : decode cL_law 1112 = .ok (.ifCond .ne 15, 3) := by decide +kernel
theorem dL_law_1115 : decode cL_law 1115 = .ok (.aload_n 3, 1) := by decide +kernel
theorem dL_law_1116 : decode cL_law 1116 = .ok (.iconst 0, 1) := by decide +kernel
theorem dL_law_1117 : decode cL_law 1117 = .ok (.laload, 1) := by decide +kernel
theorem dL_law_1118 : decode cL_law 1118 = .ok (.iload 6, 2) := by decide +kernel
theorem dL_law_1120 : decode cL_law 1120 = .ok (.i2l, 1) := by decide +kernel
theorem dL_law_1121 : decode cL_law 1121 = .ok (.lcmp, 1) := by decide +kernel
theorem dL_law_1122 : decode cL_law 1122 = .ok (.ifCond .eq 5, 3) := by decide +kernel
theorem dL_law_1125 : decode cL_law 1125 = .ok (.iconst 0, 1) := by decide +kernel
theorem dL_law_1126 : decode cL_law 1126 = .ok (.ireturn, 1) := by decide +kernel
theorem dL_law_1127 : decode cL_law 1127 = .ok (.goto 399, 3) := by decide +kernel
theorem dL_law_1130 : decode cL_law 1130 = .ok (.aload_n 1, 1) := by decide +kernel
theorem dL_law_1131 : decode cL_law 1131 = .ok (.aload_n 0, 1) := by decide +kernel
theorem dL_law_1132 : decode cL_law 1132 = .ok (.iload 4, 2) := by decide +kernel
theorem dL_law_1134 : decode cL_law 1134 = .ok (.iconst 1, 1) := by decide +kernel
theorem dL_law_1135 : decode cL_law 1135 = .ok (.iadd, 1) := by decide +kernel
theorem dL_law_1136 : decode cL_law 1136 = .ok (.iaload, 1) := by decide +kernel
theorem dL_law_1137 : decode cL_law 1137 = .ok (.aload_n 3, 1) := by decide +kernel
theorem dL_law_1138 : decode cL_law 1138 = .ok (.invokestatic 128, 3) := by decide +kernel
theorem dL_law_1141 : decode cL_law 1141 = .ok (.istore 5, 2) := by decide +kernel
theorem dL_law_1143 : decode cL_law 1143 = .ok (.aload_n 2, 1) := by decide +kernel
theorem dL_law_1144 : decode cL_law 1144 = .ok (.aload_n 0, 1) := by decide +kernel
theorem dL_law_1145 : decode cL_law 1145 = .ok (.iload 4, 2) := by decide +kernel
theorem dL_law_1147 : decode cL_law 1147 = .ok (.iconst 1, 1) := by decide +kernel
theorem dL_law_1148 : decode cL_law 1148 = .ok (.iadd, 1) := by decide +kernel
theorem dL_law_1149 : decode cL_law 1149 = .ok (.iaload, 1) := by decide +kernel
theorem dL_law_1150 : decode cL_law 1150 = .ok (.invokevirtual 130, 3) := by decide +kernel
theorem dL_law_1153 : decode cL_law 1153 = .ok (.istore 6, 2) := by decide +kernel
theorem dL_law_1155 : decode cL_law 1155 = .ok (.aload_n 2, 1) := by decide +kernel
theorem dL_law_1156 : decode cL_law 1156 = .ok (.invokevirtual 84, 3) := by decide +kernel
theorem dL_law_1159 : decode cL_law 1159 = .ok (.iload 5, 2) := by decide +kernel
theorem dL_law_1161 : decode cL_law 1161 = .ok (.if_icmp .eq 5, 3) := by decide +kernel
theorem dL_law_1164 : decode cL_law 1164 = .ok (.iconst 0, 1) := by decide +kernel
theorem dL_law_1165 : decode cL_law 1165 = .ok (.ireturn, 1) := by decide +kernel
theorem dL_law_1166 : decode cL_law 1166 = .ok (.iload 5, 2) := by decide +kernel
theorem dL_law_1168 : decode cL_law 1168 = .ok (.ifCond .ne 15, 3) := by decide +kernel
theorem dL_law_1171 : decode cL_law 1171 = .ok (.aload_n 3, 1) := by decide +kernel
theorem dL_law_1172 : decode cL_law 1172 = .ok (.iconst 0, 1) := by decide +kernel
theorem dL_law_1173 : decode cL_law 1173 = .ok (.laload, 1) := by decide +kernel
theorem dL_law_1174 : decode cL_law 1174 = .ok (.iload 6, 2) := by decide +kernel
theorem dL_law_1176 : decode cL_law 1176 = .ok (.i2l, 1) := by decide +kernel
theorem dL_law_1177 : decode cL_law 1177 = .ok (.lcmp, 1) := by decide +kernel
theorem dL_law_1178 : decode cL_law 1178 = .ok (.ifCond .eq 5, 3) := by decide +kernel
theorem dL_law_1181 : decode cL_law 1181 = .ok (.iconst 0, 1) := by decide +kernel
theorem dL_law_1182 : decode cL_law 1182 = .ok (.ireturn, 1) := by decide +kernel
theorem dL_law_1183 : decode cL_law 1183 = .ok (.goto 343, 3) := by decide +kernel
theorem dL_law_1186 : decode cL_law 1186 = .ok (.aload_n 1, 1) := by decide +kernel
theorem dL_law_1187 : decode cL_law 1187 = .ok (.aload_n 0, 1) := by decide +kernel
theorem dL_law_1188 : decode cL_law 1188 = .ok (.iload 4, 2) := by decide +kernel
theorem dL_law_1190 : decode cL_law 1190 = .ok (.iconst 1, 1) := by decide +kernel
theorem dL_law_1191 : decode cL_law 1191 = .ok (.iadd, 1) := by decide +kernel
theorem dL_law_1192 : decode cL_law 1192 = .ok (.iaload, 1) := by decide +kernel
theorem dL_law_1193 : decode cL_law 1193 = .ok (.aload_n 0, 1) := by decide +kernel
theorem dL_law_1194 : decode cL_law 1194 = .ok (.iload 4, 2) := by decide +kernel
theorem dL_law_1196 : decode cL_law 1196 = .ok (.iconst 2, 1) := by decide +kernel
theorem dL_law_1197 : decode cL_law 1197 = .ok (.iadd, 1) := by decide +kernel
theorem dL_law_1198 : decode cL_law 1198 = .ok (.iaload, 1) := by decide +kernel
theorem dL_law_1199 : decode cL_law 1199 = .ok (.aload_n 3, 1) := by decide +kernel
theorem dL_law_1200 : decode cL_law 1200 = .ok (.invokestatic 131, 3) := by decide +kernel
theorem dL_law_1203 : decode cL_law 1203 = .ok (.istore 5, 2) := by decide +kernel
theorem dL_law_1205 : decode cL_law 1205 = .ok (.aload_n 2, 1) := by decide +kernel
theorem dL_law_1206 : decode cL_law 1206 = .ok (.aload_n 0, 1) := by decide +kernel
theorem dL_law_1207 : decode cL_law 1207 = .ok (.iload 4, 2) := by decide +kernel
theorem dL_law_1209 : decode cL_law 1209 = .ok (.iconst 1, 1) := by decide +kernel
theorem dL_law_1210 : decode cL_law 1210 = .ok (.iadd, 1) := by decide +kernel
theorem dL_law_1211 : decode cL_law 1211 = .ok (.iaload, 1) := by decide +kernel
theorem dL_law_1212 : decode cL_law 1212 = .ok (.aload_n 0, 1) := by decide +kernel
theorem dL_law_1213 : decode cL_law 1213 = .ok (.iload 4, 2) := by decide +kernel
theorem dL_law_1215 : decode cL_law 1215 = .ok (.iconst 2, 1) := by decide +kernel
theorem dL_law_1216 : decode cL_law 1216 = .ok (.iadd, 1) := by decide +kernel
theorem dL_law_1217 : decode cL_law 1217 = .ok (.iaload, 1) := by decide +kernel
theorem dL_law_1218 : decode cL_law 1218 = .ok (.invokevirtual 133, 3) := by decide +kernel
theorem dL_law_1221 : decode cL_law 1221 = .ok (.istore 6, 2) := by decide +kernel
theorem dL_law_1223 : decode cL_law 1223 = .ok (.aload_n 2, 1) := by decide +kernel
theorem dL_law_1224 : decode cL_law 1224 = .ok (.invokevirtual 84, 3) := by decide +kernel
theorem dL_law_1227 : decode cL_law 1227 = .ok (.iload 5, 2) := by decide +kernel
theorem dL_law_1229 : decode cL_law 1229 = .ok (.if_icmp .eq 5, 3) := by decide +kernel
theorem dL_law_1232 : decode cL_law 1232 = .ok (.iconst 0, 1) := by decide +kernel
theorem dL_law_1233 : decode cL_law 1233 = .ok (.ireturn, 1) := by decide +kernel
theorem dL_law_1234 : decode cL_law 1234 = .ok (.iload 5, 2) := by decide +kernel
theorem dL_law_1236 : decode cL_law 1236 = .ok (.ifCond .ne 15, 3) := by decide +kernel
theorem dL_law_1239 : decode cL_law 1239 = .ok (.aload_n 3, 1) := by decide +kernel
theorem dL_law_1240 : decode cL_law 1240 = .ok (.iconst 0, 1) := by decide +kernel
theorem dL_law_1241 : decode cL_law 1241 = .ok (.laload, 1) := by decide +kernel
theorem dL_law_1242 : decode cL_law 1242 = .ok (.iload 6, 2) := by decide +kernel
theorem dL_law_1244 : decode cL_law 1244 = .ok (.i2l, 1) := by decide +kernel
theorem dL_law_1245 : decode cL_law 1245 = .ok (.lcmp, 1) := by decide +kernel
theorem dL_law_1246 : decode cL_law 1246 = .ok (.ifCond .eq 5, 3) := by decide +kernel
theorem dL_law_1249 : decode cL_law 1249 = .ok (.iconst 0, 1) := by decide +kernel
theorem dL_law_1250 : decode cL_law 1250 = .ok (.ireturn, 1) := by decide +kernel
theorem dL_law_1251 : decode cL_law 1251 = .ok (.goto 275, 3) := by decide +kernel
theorem dL_law_1254 : decode cL_law 1254 = .ok (.aload_n 1, 1) := by decide +kernel
theorem dL_law_1255 : decode cL_law 1255 = .ok (.invokevirtual 134, 3) := by decide +kernel
theorem dL_law_1258 : decode cL_law 1258 = .ok (.aload_n 2, 1) := by decide +kernel
theorem dL_law_1259 : decode cL_law 1259 = .ok (.invokevirtual 137, 3) := by decide +kernel
theorem dL_law_1262 : decode cL_law 1262 = .ok (.if_icmp .eq 264, 3) := by decide +kernel
theorem dL_law_1265 : decode cL_law 1265 = .ok (.iconst 0, 1) := by decide +kernel
theorem dL_law_1266 : decode cL_law 1266 = .ok (.ireturn, 1) := by decide +kernel
theorem dL_law_1267 : decode cL_law 1267 = .ok (.aload_n 1, 1) := by decide +kernel
theorem dL_law_1268 : decode cL_law 1268 = .ok (.aload_n 0, 1) := by decide +kernel
theorem dL_law_1269 : decode cL_law 1269 = .ok (.iload 4, 2) := by decide +kernel
theorem dL_law_1271 : decode cL_law 1271 = .ok (.iconst 1, 1) := by decide +kernel
theorem dL_law_1272 : decode cL_law 1272 = .ok (.iadd, 1) := by decide +kernel
theorem dL_law_1273 : decode cL_law 1273 = .ok (.iaload, 1) := by decide +kernel
theorem dL_law_1274 : decode cL_law 1274 = .ok (.aload_n 0, 1) := by decide +kernel
theorem dL_law_1275 : decode cL_law 1275 = .ok (.iload 4, 2) := by decide +kernel
theorem dL_law_1277 : decode cL_law 1277 = .ok (.iconst 2, 1) := by decide +kernel
theorem dL_law_1278 : decode cL_law 1278 = .ok (.iadd, 1) := by decide +kernel
theorem dL_law_1279 : decode cL_law 1279 = .ok (.iaload, 1) := by decide +kernel
theorem dL_law_1280 : decode cL_law 1280 = .ok (.aload_n 3, 1) := by decide +kernel
theorem dL_law_1281 : decode cL_law 1281 = .ok (.invokestatic 138, 3) := by decide +kernel
theorem dL_law_1284 : decode cL_law 1284 = .ok (.istore 5, 2) := by decide +kernel
theorem dL_law_1286 : decode cL_law 1286 = .ok (.aload_n 2, 1) := by decide +kernel
theorem dL_law_1287 : decode cL_law 1287 = .ok (.aload_n 0, 1) := by decide +kernel
theorem dL_law_1288 : decode cL_law 1288 = .ok (.iload 4, 2) := by decide +kernel
theorem dL_law_1290 : decode cL_law 1290 = .ok (.iconst 1, 1) := by decide +kernel
theorem dL_law_1291 : decode cL_law 1291 = .ok (.iadd, 1) := by decide +kernel
theorem dL_law_1292 : decode cL_law 1292 = .ok (.iaload, 1) := by decide +kernel
theorem dL_law_1293 : decode cL_law 1293 = .ok (.aload_n 0, 1) := by decide +kernel
theorem dL_law_1294 : decode cL_law 1294 = .ok (.iload 4, 2) := by decide +kernel
theorem dL_law_1296 : decode cL_law 1296 = .ok (.iconst 2, 1) := by decide +kernel
theorem dL_law_1297 : decode cL_law 1297 = .ok (.iadd, 1) := by decide +kernel
theorem dL_law_1298 : decode cL_law 1298 = .ok (.iaload, 1) := by decide +kernel
theorem dL_law_1299 : decode cL_law 1299 = .ok (.invokevirtual 140, 3) := by decide +kernel
theorem dL_law_1302 : decode cL_law 1302 = .ok (.istore 6, 2) := by decide +kernel
theorem dL_law_1304 : decode cL_law 1304 = .ok (.aload_n 2, 1) := by decide +kernel
theorem dL_law_1305 : decode cL_law 1305 = .ok (.invokevirtual 84, 3) := by decide +kernel
theorem dL_law_1308 : decode cL_law 1308 = .ok (.iload 5, 2) := by decide +kernel
theorem dL_law_1310 : decode cL_law 1310 = .ok (.if_icmp .eq 5, 3) := by decide +kernel
theorem dL_law_1313 : decode cL_law 1313 = .ok (.iconst 0, 1) := by decide +kernel
theorem dL_law_1314 : decode cL_law 1314 = .ok (.ireturn, 1) := by decide +kernel
theorem dL_law_1315 : decode cL_law 1315 = .ok (.iload 5, 2) := by decide +kernel
theorem dL_law_1317 : decode cL_law 1317 = .ok (.ifCond .ne 15, 3) := by decide +kernel
theorem dL_law_1320 : decode cL_law 1320 = .ok (.aload_n 3, 1) := by decide +kernel
theorem dL_law_1321 : decode cL_law 1321 = .ok (.iconst 0, 1) := by decide +kernel
theorem dL_law_1322 : decode cL_law 1322 = .ok (.laload, 1) := by decide +kernel
theorem dL_law_1323 : decode cL_law 1323 = .ok (.iload 6, 2) := by decide +kernel
theorem dL_law_1325 : decode cL_law 1325 = .ok (.i2l, 1) := by decide +kernel
theorem dL_law_1326 : decode cL_law 1326 = .ok (.lcmp, 1) := by decide +kernel
theorem dL_law_1327 : decode cL_law 1327 = .ok (.ifCond .eq 5, 3) := by decide +kernel
theorem dL_law_1330 : decode cL_law 1330 = .ok (.iconst 0, 1) := by decide +kernel
theorem dL_law_1331 : decode cL_law 1331 = .ok (.ireturn, 1) := by decide +kernel
theorem dL_law_1332 : decode cL_law 1332 = .ok (.goto 194, 3) := by decide +kernel
theorem dL_law_1335 : decode cL_law 1335 = .ok (.aload_n 1, 1) := by decide +kernel
theorem dL_law_1336 : decode cL_law 1336 = .ok (.aload_n 0, 1) := by decide +kernel
theorem dL_law_1337 : decode cL_law 1337 = .ok (.iload 4, 2) := by decide +kernel
theorem dL_law_1339 : decode cL_law 1339 = .ok (.iconst 1, 1) := by decide +kernel
theorem dL_law_1340 : decode cL_law 1340 = .ok (.iadd, 1) := by decide +kernel
theorem dL_law_1341 : decode cL_law 1341 = .ok (.iaload, 1) := by decide +kernel
theorem dL_law_1342 : decode cL_law 1342 = .ok (.aload_n 0, 1) := by decide +kernel
theorem dL_law_1343 : decode cL_law 1343 = .ok (.iload 4, 2) := by decide +kernel
theorem dL_law_1345 : decode cL_law 1345 = .ok (.iconst 2, 1) := by decide +kernel
theorem dL_law_1346 : decode cL_law 1346 = .ok (.iadd, 1) := by decide +kernel
theorem dL_law_1347 : decode cL_law 1347 = .ok (.iaload, 1) := by decide +kernel
theorem dL_law_1348 : decode cL_law 1348 = .ok (.aload_n 3, 1) := by decide +kernel
theorem dL_law_1349 : decode cL_law 1349 = .ok (.invokestatic 141, 3) := by decide +kernel
theorem dL_law_1352 : decode cL_law 1352 = .ok (.istore 5, 2) := by decide +kernel
theorem dL_law_1354 : decode cL_law 1354 = .ok (.aload_n 2, 1) := by decide +kernel
theorem dL_law_1355 : decode cL_law 1355 = .ok (.aload_n 0, 1) := by decide +kernel
theorem dL_law_1356 : decode cL_law 1356 = .ok (.iload 4, 2) := by decide +kernel
theorem dL_law_1358 : decode cL_law 1358 = .ok (.iconst 1, 1) := by decide +kernel
theorem dL_law_1359 : decode cL_law 1359 = .ok (.iadd, 1) := by decide +kernel
theorem dL_law_1360 : decode cL_law 1360 = .ok (.iaload, 1) := by decide +kernel
theorem dL_law_1361 : decode cL_law 1361 = .ok (.aload_n 0, 1) := by decide +kernel
theorem dL_law_1362 : decode cL_law 1362 = .ok (.iload 4, 2) := by decide +kernel
theorem dL_law_1364 : decode cL_law 1364 = .ok (.iconst 2, 1) := by decide +kernel
theorem dL_law_1365 : decode cL_law 1365 = .ok (.iadd, 1) := by decide +kernel
theorem dL_law_1366 : decode cL_law 1366 = .ok (.iaload, 1) := by decide +kernel
theorem dL_law_1367 : decode cL_law 1367 = .ok (.invokevirtual 143, 3) := by decide +kernel
theorem dL_law_1370 : decode cL_law 1370 = .ok (.istore 6, 2) := by decide +kernel
theorem dL_law_1372 : decode cL_law 1372 = .ok (.aload_n 2, 1) := by decide +kernel
theorem dL_law_1373 : decode cL_law 1373 = .ok (.invokevirtual 84, 3) := by decide +kernel
theorem dL_law_1376 : decode cL_law 1376 = .ok (.iload 5, 2) := by decide +kernel
theorem dL_law_1378 : decode cL_law 1378 = .ok (.if_icmp .eq 5, 3) := by decide +kernel
theorem dL_law_1381 : decode cL_law 1381 = .ok (.iconst 0, 1) := by decide +kernel
theorem dL_law_1382 : decode cL_law 1382 = .ok (.ireturn, 1) := by decide +kernel
theorem dL_law_1383 : decode cL_law 1383 = .ok (.iload 5, 2) := by decide +kernel
theorem dL_law_1385 : decode cL_law 1385 = .ok (.ifCond .ne 15, 3) := by decide +kernel
theorem dL_law_1388 : decode cL_law 1388 = .ok (.aload_n 3, 1) := by decide +kernel
theorem dL_law_1389 : decode cL_law 1389 = .ok (.iconst 0, 1) := by decide +kernel
theorem dL_law_1390 : decode cL_law 1390 = .ok (.laload, 1) := by decide +kernel
theorem dL_law_1391 : decode cL_law 1391 = .ok (.iload 6, 2) := by decide +kernel
theorem dL_law_1393 : decode cL_law 1393 = .ok (.i2l, 1) := by decide +kernel
theorem dL_law_1394 : decode cL_law 1394 = .ok (.lcmp, 1) := by decide +kernel
theorem dL_law_1395 : decode cL_law 1395 = .ok (.ifCond .eq 5, 3) := by decide +kernel
theorem dL_law_1398 : decode cL_law 1398 = .ok (.iconst 0, 1) := by decide +kernel
theorem dL_law_1399 : decode cL_law 1399 = .ok (.ireturn, 1) := by decide +kernel
theorem dL_law_1400 : decode cL_law 1400 = .ok (.goto 126, 3) := by decide +kernel
theorem dL_law_1403 : decode cL_law 1403 = .ok (.aload_n 1, 1) := by decide +kernel
theorem dL_law_1404 : decode cL_law 1404 = .ok (.aload_n 0, 1) := by decide +kernel
theorem dL_law_1405 : decode cL_law 1405 = .ok (.iload 4, 2) := by decide +kernel
theorem dL_law_1407 : decode cL_law 1407 = .ok (.iconst 1, 1) := by decide +kernel
theorem dL_law_1408 : decode cL_law 1408 = .ok (.iadd, 1) := by decide +kernel
theorem dL_law_1409 : decode cL_law 1409 = .ok (.iaload, 1) := by decide +kernel
theorem dL_law_1410 : decode cL_law 1410 = .ok (.aload_n 0, 1) := by decide +kernel
theorem dL_law_1411 : decode cL_law 1411 = .ok (.iload 4, 2) := by decide +kernel
theorem dL_law_1413 : decode cL_law 1413 = .ok (.iconst 2, 1) := by decide +kernel
theorem dL_law_1414 : decode cL_law 1414 = .ok (.iadd, 1) := by decide +kernel
theorem dL_law_1415 : decode cL_law 1415 = .ok (.iaload, 1) := by decide +kernel
theorem dL_law_1416 : decode cL_law 1416 = .ok (.aload_n 3, 1) := by decide +kernel
theorem dL_law_1417 : decode cL_law 1417 = .ok (.invokestatic 144, 3) := by decide +kernel
theorem dL_law_1420 : decode cL_law 1420 = .ok (.istore 5, 2) := by decide +kernel
theorem dL_law_1422 : decode cL_law 1422 = .ok (.aload_n 2, 1) := by decide +kernel
theorem dL_law_1423 : decode cL_law 1423 = .ok (.aload_n 0, 1) := by decide +kernel
theorem dL_law_1424 : decode cL_law 1424 = .ok (.iload 4, 2) := by decide +kernel
theorem dL_law_1426 : decode cL_law 1426 = .ok (.iconst 1, 1) := by decide +kernel
theorem dL_law_1427 : decode cL_law 1427 = .ok (.iadd, 1) := by decide +kernel
theorem dL_law_1428 : decode cL_law 1428 = .ok (.iaload, 1) := by decide +kernel
theorem dL_law_1429 : decode cL_law 1429 = .ok (.aload_n 0, 1) := by decide +kernel
theorem dL_law_1430 : decode cL_law 1430 = .ok (.iload 4, 2) := by decide +kernel
theorem dL_law_1432 : decode cL_law 1432 = .ok (.iconst 2, 1) := by decide +kernel
theorem dL_law_1433 : decode cL_law 1433 = .ok (.iadd, 1) := by decide +kernel
theorem dL_law_1434 : decode cL_law 1434 = .ok (.iaload, 1) := by decide +kernel
theorem dL_law_1435 : decode cL_law 1435 = .ok (.invokevirtual 146, 3) := by decide +kernel
theorem dL_law_1438 : decode cL_law 1438 = .ok (.istore 6, 2) := by decide +kernel
theorem dL_law_1440 : decode cL_law 1440 = .ok (.aload_n 2, 1) := by decide +kernel
theorem dL_law_1441 : decode cL_law 1441 = .ok (.invokevirtual 84, 3) := by decide +kernel
theorem dL_law_1444 : decode cL_law 1444 = .ok (.iload 5, 2) := by decide +kernel
theorem dL_law_1446 : decode cL_law 1446 = .ok (.if_icmp .eq 5, 3) := by decide +kernel
theorem dL_law_1449 : decode cL_law 1449 = .ok (.iconst 0, 1) := by decide +kernel
theorem dL_law_1450 : decode cL_law 1450 = .ok (.ireturn, 1) := by decide +kernel
theorem dL_law_1451 : decode cL_law 1451 = .ok (.iload 5, 2) := by decide +kernel
theorem dL_law_1453 : decode cL_law 1453 = .ok (.ifCond .ne 15, 3) := by decide +kernel
theorem dL_law_1456 : decode cL_law 1456 = .ok (.aload_n 3, 1) := by decide +kernel
theorem dL_law_1457 : decode cL_law 1457 = .ok (.iconst 0, 1) := by decide +kernel
theorem dL_law_1458 : decode cL_law 1458 = .ok (.laload, 1) := by decide +kernel
theorem dL_law_1459 : decode cL_law 1459 = .ok (.iload 6, 2) := by decide +kernel
theorem dL_law_1461 : decode cL_law 1461 = .ok (.i2l, 1) := by decide +kernel
theorem dL_law_1462 : decode cL_law 1462 = .ok (.lcmp, 1) := by decide +kernel
theorem dL_law_1463 : decode cL_law 1463 = .ok (.ifCond .eq 5, 3) := by decide +kernel
theorem dL_law_1466 : decode cL_law 1466 = .ok (.iconst 0, 1) := by decide +kernel
theorem dL_law_1467 : decode cL_law 1467 = .ok (.ireturn, 1) := by decide +kernel
theorem dL_law_1468 : decode cL_law 1468 = .ok (.goto 58, 3) := by decide +kernel
theorem dL_law_1471 : decode cL_law 1471 = .ok (.aload_n 1, 1) := by decide +kernel
theorem dL_law_1472 : decode cL_law 1472 = .ok (.invokevirtual 147, 3) := by decide +kernel
theorem dL_law_1475 : decode cL_law 1475 = .ok (.dstore 5, 2) := by decide +kernel
theorem dL_law_1477 : decode cL_law 1477 = .ok (.aload_n 2, 1) := by decide +kernel
theorem dL_law_1478 : decode cL_law 1478 = .ok (.invokevirtual 151, 3) := by decide +kernel
theorem dL_law_1481 : decode cL_law 1481 = .ok (.dstore 7, 2) := by decide +kernel
theorem dL_law_1483 : decode cL_law 1483 = .ok (.dload 5, 2) := by decide +kernel
theorem dL_law_1485 : decode cL_law 1485 = .ok (.dload 7, 2) := by decide +kernel
theorem dL_law_1487 : decode cL_law 1487 = .ok (.dcmp .l, 1) := by decide +kernel
theorem dL_law_1488 : decode cL_law 1488 = .ok (.ifCond .eq 21, 3) := by decide +kernel
theorem dL_law_1491 : decode cL_law 1491 = .ok (.dload 5, 2) := by decide +kernel
theorem dL_law_1493 : decode cL_law 1493 = .ok (.dload 5, 2) := by decide +kernel
theorem dL_law_1495 : decode cL_law 1495 = .ok (.dcmp .l, 1) := by decide +kernel
theorem dL_law_1496 : decode cL_law 1496 = .ok (.ifCond .eq 11, 3) := by decide +kernel
theorem dL_law_1499 : decode cL_law 1499 = .ok (.dload 7, 2) := by decide +kernel
theorem dL_law_1501 : decode cL_law 1501 = .ok (.dload 7, 2) := by decide +kernel
theorem dL_law_1503 : decode cL_law 1503 = .ok (.dcmp .l, 1) := by decide +kernel
theorem dL_law_1504 : decode cL_law 1504 = .ok (.ifCond .ne 5, 3) := by decide +kernel
theorem dL_law_1507 : decode cL_law 1507 = .ok (.iconst 0, 1) := by decide +kernel
theorem dL_law_1508 : decode cL_law 1508 = .ok (.ireturn, 1) := by decide +kernel
theorem dL_law_1509 : decode cL_law 1509 = .ok (.goto 17, 3) := by decide +kernel
theorem dL_law_1512 : decode cL_law 1512 = .ok (.aload_n 1, 1) := by decide +kernel
theorem dL_law_1513 : decode cL_law 1513 = .ok (.invokevirtual 152, 3) := by decide +kernel
theorem dL_law_1516 : decode cL_law 1516 = .ok (.aload_n 2, 1) := by decide +kernel
theorem dL_law_1517 : decode cL_law 1517 = .ok (.invokevirtual 156, 3) := by decide +kernel
theorem dL_law_1520 : decode cL_law 1520 = .ok (.lcmp, 1) := by decide +kernel
theorem dL_law_1521 : decode cL_law 1521 = .ok (.ifCond .eq 5, 3) := by decide +kernel
theorem dL_law_1524 : decode cL_law 1524 = .ok (.iconst 0, 1) := by decide +kernel
theorem dL_law_1525 : decode cL_law 1525 = .ok (.ireturn, 1) := by decide +kernel
theorem dL_law_1526 : decode cL_law 1526 = .ok (.iinc 4 7, 3) := by decide +kernel
theorem dL_law_1529 : decode cL_law 1529 = .ok (.goto (-1506), 3) := by decide +kernel
theorem dL_law_1532 : decode cL_law 1532 = .ok (.iconst 1, 1) := by decide +kernel
theorem dL_law_1533 : decode cL_law 1533 = .ok (.ireturn, 1) := by decide +kernel
end
section
/-! ===== PURE HEAPS: what the cells hold, by address ===== -/
abbrev PC : Type := (Nat × vp_A) ⊕ (Nat × List Value)
abbrev PH : Type := Nat × (Nat → Option PC)
/-- the fixed things of a run: class numbers and slots, array classes, first free address and the heap at the start, the static arrays and the class object -/
abbrev GE : Type := (va_G × (Nat → ClassId)) × (Nat × Heap) × (Nat × Nat × Nat × Nat)
abbrev gD (G : GE) : va_G := G.1.1
abbrev gT (G : GE) : Nat → ClassId := G.1.2
abbrev gB (G : GE) : Nat := G.2.1.1
abbrev gH (G : GE) : Heap := G.2.1.2
abbrev gCS (G : GE) : Nat := G.2.2.1
abbrev gRS (G : GE) : Nat := G.2.2.2.1
abbrev gDE (G : GE) : Nat := G.2.2.2.2.1
abbrev gMI (G : GE) : Nat := G.2.2.2.2.2
abbrev gA (G : GE) : Nat → Prop := fun q => gB G ≤ q
def tysL (G : GE) : List (ClassId × FieldType) := [(gT G 0, .int), (gT G 1, .object "java/lang/Object"), (gT G 2, .boolean), (gT G 3, .long)]
def toE (G : GE) (c : PC) : va_E := match c with
  | .inl (k, a) => .inl (gT G k, a)
  | .inr o => .inr o
/-- the heap holds the pure heap; below the first free address it is the start's -/
def Hd (G : GE) (h : PH) (H : Heap) : Prop := H.size = h.1 ∧ gB G ≤ h.1 ∧ (∀ q : Nat, q < gB G → H[q]? = (gH G)[q]?) ∧ ∀ (q : Nat) (c : PC), h.2 q = some c → va_at (gD G) vwCl (q, toE G c) H ∧ gB G ≤ q
def W0 : List Cond := lw_tbl.filter goodWord
theorem w0_of {w : Cond} (i : Nat) (h : lw_tbl[i]? = some w) (hg : goodWord w = true) : w ∈ W0 := List.mem_filter.mpr ⟨List.mem_of_getElem? h, hg⟩
theorem w0_good : GoodIn W0 W0 := fun w h => ⟨h, good_of_word (List.mem_filter.mp h).2⟩
/-- nest mates' words -/
def nwF : List (String × Nat × String × String × String × String) := [
  ("VaneHouse$Vane", 80, "VaneHouse$Wind", "direction", "I", "VaneHouse"),
  ("VaneHouse", 239, "VaneHouse$Wind", "direction", "I", "VaneHouse"),
  ("VaneHouse$Vane", 59, "VaneHouse$Wind", "strength", "I", "VaneHouse"),
  ("VaneHouse", 284, "VaneHouse$Wind", "rains", "Z", "VaneHouse"),
  ("VaneHouse", 95, "VaneHouse$Town", "vanes", "Ljava/util/ArrayList;", "VaneHouse"),
  ("VaneHouse$Town", 36, "VaneHouse$Mast", "column", "I", "VaneHouse"),
  ("VaneHouse$Vane", 34, "VaneHouse$Mast", "column", "I", "VaneHouse"),
  ("VaneHouse$Town", 42, "VaneHouse$Mast", "row", "I", "VaneHouse"),
  ("VaneHouse$Vane", 39, "VaneHouse$Mast", "row", "I", "VaneHouse"),
  ("VaneHouse$Vane", 42, "VaneHouse$Mast", "height", "I", "VaneHouse"),
  ("VaneHouse$Vane", 45, "VaneHouse$Mast", "weight", "I", "VaneHouse"),
  ("VaneHouse$Town", 32, "VaneHouse$Vane", "mast", "LVaneHouse$Mast;", "VaneHouse"),
  ("VaneHouse$Town", 72, "VaneHouse$Vane", "votes", "I", "VaneHouse"),
  ("VaneHouse", 123, "VaneHouse$Vane", "rust", "I", "VaneHouse"),
  ("VaneHouse$Motion", 43, "VaneHouse$Vane", "direction", "I", "VaneHouse"),
  ("VaneHouse$Town", 49, "VaneHouse$Vane", "direction", "I", "VaneHouse"),
  ("VaneHouse", 137, "VaneHouse$Vane", "direction", "I", "VaneHouse"),
  ("VaneHouse", 140, "VaneHouse$Vane", "spin", "I", "VaneHouse"),
  ("VaneHouse", 132, "VaneHouse$Vane", "bound", "I", "VaneHouse"),
  ("VaneHouse$Town", 90, "VaneHouse$Vane", "bound", "I", "VaneHouse"),
  ("VaneHouse", 261, "VaneHouse$Motion", "number", "I", "VaneHouse"),
  ("VaneHouse$Town", 81, "VaneHouse$Motion", "quorum", "I", "VaneHouse"),
  ("VaneHouse$Town", 59, "VaneHouse$Motion", "effect", "I", "VaneHouse"),
  ("VaneHouse", 257, "VaneHouse$AgendaEntry", "motion", "LVaneHouse$Motion;", "VaneHouse"),
  ("VaneHouse", 264, "VaneHouse$AgendaEntry", "hour", "I", "VaneHouse"),
  ("VaneHouseModel", 104, "VaneHouseModel$State", "hour", "I", "VaneHouseModel"),
  ("VaneHouseModel", 42, "VaneHouseModel$State", "winds", "I", "VaneHouseModel"),
  ("VaneHouseModel", 23, "VaneHouseModel$State", "direction", "[I", "VaneHouseModel"),
  ("VaneHouseModel", 27, "VaneHouseModel$State", "strength", "[I", "VaneHouseModel"),
  ("VaneHouseModel", 30, "VaneHouseModel$State", "rains", "[Z", "VaneHouseModel"),
  ("VaneHouseModel", 53, "VaneHouseModel$State", "vanes", "I", "VaneHouseModel"),
  ("VaneHouseModel", 59, "VaneHouseModel$State", "vane", "[I", "VaneHouseModel"),
  ("VaneHouseModel", 95, "VaneHouseModel$State", "motions", "I", "VaneHouseModel"),
  ("VaneHouseModel", 98, "VaneHouseModel$State", "motion", "[I", "VaneHouseModel"),
  ("VaneHouseModel", 107, "VaneHouseModel$State", "entries", "I", "VaneHouseModel"),
  ("VaneHouseModel", 110, "VaneHouseModel$State", "agenda", "[I", "VaneHouseModel"),
  ("VaneHouseModel", 129, "VaneHouseModel$State", "passed", "I", "VaneHouseModel")]
def nwM : List (String × Nat × MethodName × String) := [
  ("VaneHouse", 33, ⟨"VaneHouse$Town", "<init>", "()V"⟩, "VaneHouse"),
  ("VaneHouse$Motion", 46, ⟨"VaneHouse", "distance", "(II)I"⟩, "VaneHouse"),
  ("VaneHouse$Vane", 81, ⟨"VaneHouse", "steps", "(II)I"⟩, "VaneHouse"),
  ("VaneHouseModel", 76, ⟨"VaneHouseModel$State", "set", "(III)V"⟩, "VaneHouseModel"),
  ("VaneHouseModel$State", 80, ⟨"VaneHouseModel", "apart", "(II)I"⟩, "VaneHouseModel"),
  ("VaneHouseModel", 157, ⟨"VaneHouseModel$State", "entry", "()I"⟩, "VaneHouseModel")]
def NW : List Cond := nwF.map (fun x => .fieldLinkNest x.1 x.2.1 x.2.2.1 x.2.2.2.1 x.2.2.2.2.1 x.2.2.2.2.2) ++ nwM.map (fun x => .methodLinkNest x.1 x.2.1 x.2.2.1 x.2.2.2)
/-- words that only the tables decide -/
def owC : List (String × String) := [
  ("java/lang/IllegalArgumentException", "java/lang/IllegalArgumentException"),
  ("java/lang/IllegalStateException", "java/lang/IllegalStateException"),
  ("java/lang/IndexOutOfBoundsException", "java/lang/IndexOutOfBoundsException"),
  ("VaneHouse", "java/lang/Object"),
  ("VaneHouse$Wind", "java/lang/Object"),
  ("java/util/ArrayList", "java/lang/Object"),
  ("VaneHouse$Town", "java/lang/Object"),
  ("VaneHouseModel", "java/lang/Object"),
  ("VaneHouseModel$State", "java/lang/Object"),
  ("java/lang/IllegalArgumentException", "java/lang/Object"),
  ("java/lang/IllegalStateException", "java/lang/Object"),
  ("java/lang/IndexOutOfBoundsException", "java/lang/Object"),
  ("VaneHouse$Mast", "java/lang/Object"),
  ("VaneHouse$Vane", "java/lang/Object"),
  ("VaneHouse$Motion", "java/lang/Object"),
  ("VaneHouse$AgendaEntry", "java/lang/Object"),
  ("java/lang/Throwable", "java/lang/Object"),
  ("java/lang/String", "java/lang/Object"),
  ("[Ljava/lang/Object;", "java/lang/Object"),
  ("[B", "java/lang/Object"),
  ("[I", "java/lang/Object"),
  ("[Z", "java/lang/Object"),
  ("[J", "java/lang/Object")]
def owD : List MethodName := [
  ⟨"java/lang/RuntimeException", "<init>", "()V"⟩,
  ⟨"java/lang/RuntimeException", "<init>", "(Ljava/lang/String;)V"⟩,
  ⟨"java/lang/Exception", "<init>", "()V"⟩,
  ⟨"java/lang/Exception", "<init>", "(Ljava/lang/String;)V"⟩,
  ⟨"java/lang/Throwable", "<init>", "()V"⟩,
  ⟨"java/lang/Throwable", "<init>", "(Ljava/lang/String;)V"⟩,
  ⟨"java/lang/Object", "getClass", "()Ljava/lang/Class;"⟩]
def OW : List Cond := owC.map (fun x => .castable x.1 x.2) ++ owD.map (fun x => .declares x)
/-- the texts of the exceptions: pool place, text -/
def strs : List (Nat × String) := [
  (55, "no such wind"),
  (69, "the table of winds is full"),
  (72, "no such hour"),
  (76, "a wind does not tell this"),
  (87, "no such place"),
  (89, "no such vane can be"),
  (98, "there is no room for it"),
  (117, "no such vane"),
  (130, "no such direction"),
  (135, "it is bound"),
  (143, "a vane does not tell this"),
  (155, "no such motion can be"),
  (157, "there are enough motions"),
  (167, "no such motion"),
  (169, "this hour does not come"),
  (171, "the agenda is full"),
  (178, "a motion does not tell this"),
  (187, "not so many hours at once"),
  (189, "time ends before"),
  (205, "this is not counted"),
  (210, "no such party"),
  (212, "a party does not tell this")]
def csF : Nat → Int32 := fun j => ([0, 1, 1, 1, 0, -1, -1, -1] : List Int32).getD j 0
def rsF : Nat → Int32 := fun j => ([-1, -1, 0, 1, 1, 1, 0, -1] : List Int32).getD j 0
def EvG (G : GE) (s : State) : Prop :=
  va_K (gD G) vwCl (tysL G) s ∧
  (va_Z RX1 "COLUMN_STEPS" "[I" (.ref (gCS G)) (gA G) s (gH G) ∧ va_Z RX1 "ROW_STEPS" "[I" (.ref (gRS G)) (gA G) s (gH G) ∧ va_Z RJx4a65c "DEFAULTCAPACITY_EMPTY_ELEMENTDATA" "[Ljava/lang/Object;" (.ref (gDE G)) (gA G) s (gH G)) ∧
  (va_T .int (gCS G) 8 (fun j => .int (csF j)) (gA G) s (gH G) ∧ va_T .int (gRS G) 8 (fun j => .int (rsF j)) (gA G) s (gH G) ∧ va_T (.object "java/lang/Object") (gDE G) 0 (fun _ => .null) (gA G) s (gH G)) ∧
  (∀ w ∈ NW, va_Nw w s) ∧ (∀ w ∈ OW, va_Nw w s) ∧
  (va_Mi "[Ljava/lang/Object;" (gMI G) s ∧ va_AO "java/lang/Object" s ∧ va_O "[Ljava/lang/Object;" (gDE G) (gA G) s (gH G)) ∧
  (vx_Zq Bundle.tN "UNASSIGNED_STACK" Bundle.steD (gA G) s (gH G) ∧ vx_Zq Bundle.tN "SUPPRESSED_SENTINEL" Bundle.listD (gA G) s (gH G)) ∧
  (∀ x ∈ strs, ∃ sa : Nat, vk_R RX6 x.1 x.2 sa s)

theorem NW.warm {s U : State} (hW : s.WarmedH U.vm) (h : ∀ w ∈ NW, va_Nw w s) : ∀ w ∈ NW, va_Nw w U := by
  intro w hw
  rcases List.mem_append.mp hw with h1 | h1
  · obtain ⟨x, -, rfl⟩ := List.mem_map.mp h1
    exact va_Nw.warmF hW (h _ hw)
  · obtain ⟨x, -, rfl⟩ := List.mem_map.mp h1
    exact va_Nw.warmM hW (h _ hw)
theorem OW.warm {s U : State} (hW : s.vm.Alike U.vm) (h : ∀ w ∈ OW, va_Nw w s) : ∀ w ∈ OW, va_Nw w U := by
  intro w hw
  rcases List.mem_append.mp hw with h1 | h1
  · obtain ⟨x, -, rfl⟩ := List.mem_map.mp h1
    exact va_tabs rfl (rfl : (s.setVm U.vm).vm = U.vm) (by rw [Cond.castable_setVm hW]; exact h _ hw)
  · obtain ⟨x, -, rfl⟩ := List.mem_map.mp h1
    exact va_tabs rfl (rfl : (s.setVm U.vm).vm = U.vm) (by rw [Cond.declares_setVm hW]; exact h _ hw)
theorem EvG.warm {G : GE} {s U : State} (hW : s.WarmedH U.vm) (h : EvG G s) : EvG G U := by
  obtain ⟨h1, ⟨a1, a2, a3⟩, ⟨b1, b2, b3⟩, h4, h5, ⟨c1, c0, c2⟩, ⟨d1, d2⟩, h8⟩ := h
  have hal := hW.alike
  exact ⟨va_K.moved hal h1, ⟨va_Z.moved hal a1, va_Z.moved hal a2, va_Z.moved hal a3⟩, ⟨va_T.moved hal b1, va_T.moved hal b2, va_T.moved hal b3⟩, NW.warm hW h4, OW.warm hal h5, ⟨va_Mi.moved hal c1, va_AO.moved hal c0, va_O.moved hal c2⟩, ⟨vx_Zq.moved hal d1, vx_Zq.moved hal d2⟩,
    fun x hx => by obtain ⟨sa, hs⟩ := h8 x hx; exact ⟨sa, vk_R.warm hW hs⟩⟩
theorem NW.same {u U : State} (hv : u.vm = U.vm) (h : ∀ w ∈ NW, va_Nw w u) : ∀ w ∈ NW, va_Nw w U := by
  intro w hw
  rcases List.mem_append.mp hw with h1 | h1
  · obtain ⟨x, -, rfl⟩ := List.mem_map.mp h1
    exact va_Nw.same rfl hv (h _ hw)
  · obtain ⟨x, -, rfl⟩ := List.mem_map.mp h1
    exact va_Nw.same rfl hv (h _ hw)
theorem EvG.same {G : GE} {u U : State} (hv : u.vm = U.vm) (h : EvG G u) : EvG G U := by
  obtain ⟨h1, ⟨a1, a2, a3⟩, ⟨b1, b2, b3⟩, h4, h5, ⟨c1, c0, c2⟩, ⟨d1, d2⟩, h8⟩ := h
  have hal : u.vm.Alike U.vm := by rw [hv]; exact Vm.Alike.refl U.vm
  exact ⟨va_K.moved hal h1, ⟨va_Z.moved hal a1, va_Z.moved hal a2, va_Z.moved hal a3⟩, ⟨va_T.moved hal b1, va_T.moved hal b2, va_T.moved hal b3⟩, NW.same hv h4, OW.warm hal h5, ⟨va_Mi.moved hal c1, va_AO.moved hal c0, va_O.moved hal c2⟩, ⟨vx_Zq.moved hal d1, vx_Zq.moved hal d2⟩,
    fun x hx => by obtain ⟨sa, hs⟩ := h8 x hx; exact ⟨sa, vk_R.same hv.symm hs⟩⟩
end
section
/-! ===== PURE STEPS over a pure heap ===== -/
def bd {α β : Type} (o : Option (α × PH)) (F : α → PH → Option β) : Option β := match o with
  | some x => F x.1 x.2
  | none => none
def rd {α β : Type} (o : Option α) (F : α → Option β) : Option β := match o with
  | some x => F x
  | none => none
theorem bd_some {α β : Type} {o : Option (α × PH)} {F : α → PH → Option β} {r : β} (h : bd o F = some r) : ∃ a h', o = some (a, h') ∧ F a h' = some r := by
  cases o with
  | none => cases h
  | some x => exact ⟨x.1, x.2, rfl, h⟩
theorem rd_some {α β : Type} {o : Option α} {F : α → Option β} {r : β} (h : rd o F = some r) : ∃ a, o = some a ∧ F a = some r := by
  cases o with
  | none => cases h
  | some x => exact ⟨x, rfl, h⟩
/-- a field -/
def oGet (ci : Nat) (h : PH) (q k : Nat) : Option Value := match h.2 q with
  | some (.inr (c, fs)) => if c = ci then fs[k]? else none
  | _ => none
def gI (ci : Nat) (h : PH) (q k : Nat) : Option Int32 := match oGet ci h q k with
  | some (.int x) => some x
  | _ => none
def gR (ci : Nat) (h : PH) (q k : Nat) : Option Nat := match oGet ci h q k with
  | some (.ref x) => some x
  | _ => none
def sF (ci : Nat) (h : PH) (q k : Nat) (v : Value) : Option PH := match h.2 q with
  | some (.inr (c, fs)) => if c = ci ∧ k < fs.length then some (h.1, va_up h.2 q (some (.inr (c, fs.set k v)))) else none
  | _ => none
def isC (ci : Nat) (h : PH) (q : Nat) : Option Unit := match h.2 q with
  | some (.inr (c, _)) => if c = ci then some () else none
  | _ => none
/-- arrays -/
def aLen (G : GE) (h : PH) (q : Nat) : Option Int32 := if q = gDE G then some 0 else match h.2 q with
  | some (.inl (k, n, _)) => if k < 4 then some (nI n) else none
  | _ => none
def aI (h : PH) (q : Nat) (i : Int32) : Option Int32 := match h.2 q with
  | some (.inl (k, n, .inl f)) => if k = 0 ∧ ¬ (i < 0 ∨ n ≤ i.toNatClampNeg) then some (f i.toNatClampNeg) else none
  | _ => none
def aIs (h : PH) (q : Nat) (i x : Int32) : Option PH := match h.2 q with
  | some (.inl (k, n, .inl f)) => if k = 0 ∧ ¬ (i < 0 ∨ n ≤ i.toNatClampNeg) then some (h.1, va_up h.2 q (some (.inl (0, n, .inl (upd f i.toNatClampNeg x))))) else none
  | _ => none
def aZ (h : PH) (q : Nat) (i : Int32) : Option Int32 := match h.2 q with
  | some (.inl (k, n, .inl f)) => if k = 2 ∧ ¬ (i < 0 ∨ n ≤ i.toNatClampNeg) then some (f i.toNatClampNeg) else none
  | _ => none
def aZs (h : PH) (q : Nat) (i x : Int32) : Option PH := match h.2 q with
  | some (.inl (k, n, .inl f)) => if k = 2 ∧ (x = 0 ∨ x = 1) ∧ ¬ (i < 0 ∨ n ≤ i.toNatClampNeg) then some (h.1, va_up h.2 q (some (.inl (2, n, .inl (upd f i.toNatClampNeg x))))) else none
  | _ => none
def aJ (h : PH) (q : Nat) (i : Int32) : Option Int64 := match h.2 q with
  | some (.inl (k, n, .inr (.inl f))) => if k = 3 ∧ ¬ (i < 0 ∨ n ≤ i.toNatClampNeg) then some (f i.toNatClampNeg) else none
  | _ => none
def aJs (h : PH) (q : Nat) (i : Int32) (x : Int64) : Option PH := match h.2 q with
  | some (.inl (k, n, .inr (.inl f))) => if k = 3 ∧ ¬ (i < 0 ∨ n ≤ i.toNatClampNeg) then some (h.1, va_up h.2 q (some (.inl (3, n, .inr (.inl (vp_updL f i.toNatClampNeg x)))))) else none
  | _ => none
def aR (h : PH) (q : Nat) (i : Int32) : Option Nat := match h.2 q with
  | some (.inl (k, n, .inr (.inr (.inr (.inr f))))) => if k = 1 ∧ ¬ (i < 0 ∨ n ≤ i.toNatClampNeg) then f i.toNatClampNeg else none
  | _ => none
/-- a reference is stored: null, or an object of ours -/
def aRs (h : PH) (q : Nat) (i : Int32) (r : Option Nat) : Option PH := match h.2 q with
  | some (.inl (k, n, .inr (.inr (.inr (.inr f))))) => if k = 1 ∧ ¬ (i < 0 ∨ n ≤ i.toNatClampNeg) then some (h.1, va_up h.2 q (some (.inl (1, n, .inr (.inr (.inr (.inr (va_up f i.toNatClampNeg r)))))))) else none
  | _ => none
def isO (h : PH) (q : Nat) : Option Unit := match h.2 q with
  | some (.inr (c, _)) => if c < 10 then some () else none
  | _ => none
/-- a new cell -/
def nw {β : Type} (h : PH) (c : PC) (F : Nat → PH → Option β) : Option β := F h.1 (h.1 + 1, va_up h.2 h.1 (some c))
def nwA {β : Type} (h : PH) (n : Int32) (B : Nat) (c : Nat → PC) (F : Nat → PH → Option β) : Option β := if ¬ n < 0 ∧ n.toNatClampNeg ≤ B then F h.1 (h.1 + 1, va_up h.2 h.1 (some (c n.toNatClampNeg))) else none
abbrev cI (n : Nat) : PC := .inl (0, n, .inl (fun _ => 0))
abbrev cZ (n : Nat) : PC := .inl (2, n, .inl (fun _ => 0))
abbrev cJ (n : Nat) : PC := .inl (3, n, .inr (.inl (fun _ => 0)))
abbrev cR (n : Nat) : PC := .inl (1, n, .inr (.inr (.inr (.inr (fun _ => none)))))
/-- guards -/
def nz {β : Type} (y : Int32) (F : Option β) : Option β := if y = 0 then none else F
def z1 {β : Type} (y : Int32) (F : Option β) : Option β := if y = 0 ∨ y = 1 then F else none
theorem nz_some {β : Type} {y : Int32} {F : Option β} {r : β} (h : nz y F = some r) : ¬ y = 0 ∧ F = some r := by
  unfold nz at h
  split at h
  · cases h
  · exact ⟨by assumption, h⟩
theorem z1_some {β : Type} {y : Int32} {F : Option β} {r : β} (h : z1 y F = some r) : (y = 0 ∨ y = 1) ∧ F = some r := by
  unfold z1 at h
  split at h
  · exact ⟨by assumption, h⟩
  · cases h
abbrev mxI (x y : Int32) : Int32 := if x < y then y else x
abbrev mnI (x y : Int32) : Int32 := if y < x then y else x
abbrev abI (x : Int32) : Int32 := if 0 ≤ x then x else 0 - x
/-- copies -/
def cpI (k : Nat) (h : PH) (src : Nat) (sp : Int32) (dst : Nat) (dp n : Int32) : Option PH := match h.2 src, h.2 dst with
  | some (.inl (k0, n0, .inl f)), some (.inl (k1, n1, .inl g)) =>
    if k0 = k ∧ k1 = k ∧ ¬ sp < 0 ∧ ¬ dp < 0 ∧ ¬ n < 0 ∧ sp.toNatClampNeg + n.toNatClampNeg ≤ n0 ∧ dp.toNatClampNeg + n.toNatClampNeg ≤ n1 ∧ (k = 2 → ∀ i, i < n.toNatClampNeg → f (sp.toNatClampNeg + i) = 0 ∨ f (sp.toNatClampNeg + i) = 1) ∧ src ≠ dst
    then some (h.1, va_up h.2 dst (some (.inl (k, n1, .inl (va_cpy f g sp.toNatClampNeg dp.toNatClampNeg n.toNatClampNeg))))) else none
  | _, _ => none
/-- the elements are null or objects of ours -/
def okR (h : PH) (f : Nat → Option Nat) (sp n : Nat) : Prop := ∀ i, i < n → ∀ y, f (sp + i) = some y → ∃ ci fs, h.2 y = some (.inr (ci, fs)) ∧ ci < 10
noncomputable def cpR (h : PH) (src : Nat) (sp : Int32) (dst : Nat) (dp n : Int32) : Option PH := match h.2 src, h.2 dst with
  | some (.inl (k0, n0, .inr (.inr (.inr (.inr f))))), some (.inl (k1, n1, .inr (.inr (.inr (.inr g))))) =>
    @ite _ (k0 = 1 ∧ k1 = 1 ∧ ¬ sp < 0 ∧ ¬ dp < 0 ∧ ¬ n < 0 ∧ sp.toNatClampNeg + n.toNatClampNeg ≤ n0 ∧ dp.toNatClampNeg + n.toNatClampNeg ≤ n1 ∧ okR h f sp.toNatClampNeg n.toNatClampNeg) (Classical.propDecidable _)
      (some (h.1, va_up h.2 dst (some (.inl (1, n1, .inr (.inr (.inr (.inr (va_cpy f g sp.toNatClampNeg dp.toNatClampNeg n.toNatClampNeg))))))))) none
  | _, _ => none
/-- an array of objects, for its class object -/
def isA (G : GE) (h : PH) (q : Nat) : Option Unit := if q = gDE G then some () else match h.2 q with
  | some (.inl (k, _)) => if k = 1 then some () else none
  | _ => none
abbrev rmI (x y : Int32) : Int32 := x - x / y * y
def ti {β : Type} (i : Int32) (F : Option β) : Option β := if ¬ (i < 0 ∨ 8 ≤ i.toNatClampNeg) then F else none
def ngd {β : Type} (z : UInt64) (F : Option β) : Option β := if z &&& 0x7fffffffffffffff ≤ 0x7ff0000000000000 then F else none
def LF : Nat := 100000
/-- loops by fuel -/
def lp {F : Type} (z : F) (body : F → F) : Nat → F
  | 0 => z
  | n + 1 => body (lp z body n)
/-! ===== what a body's rows rest on ===== -/
def Cx (G : GE) (p : Program) (s : State) (m : MethodId) (args : Array Value) (meth : Method) (c : Code) (cc : ByteArray) (nL : Nat) (own nm : String) (ret : Option FieldType) : Prop :=
  p.tables.exec = Jvm.exec ∧ c.code = cc ∧ c.maxLocals = nL ∧ s.vm.findClass own = some m.cls ∧ (∀ w ∈ W0, w.before args s = true) ∧ EvG G s ∧ meth.locks = false ∧ meth.name = nm ∧ meth.sig.returnType = ret ∧ gB G ≤ s.heap.size ∧ ∀ q : Nat, q < gB G → s.heap[q]? = (gH G)[q]?
def Hx (G : GE) (s : State) (h : PH) (H : Heap) (locs : List Loc) : Prop := Hd G h H ∧ s.heap.size ≤ H.size ∧ ∀ z ∈ locs, gB G ≤ z.base
theorem Hx.S {G : GE} {p : Program} {s : State} {m : MethodId} {args : Array Value} {meth : Method} {c : Code} {cc : ByteArray} {nL : Nat} {own nm : String} {ret : Option FieldType} {h : PH} {H : Heap} {locs : List Loc} (X : Cx G p s m args meth c cc nL own nm ret) (hH : Hx G s h H locs) : va_S (gA G) s.heap H locs := by
  refine ⟨hH.2.1, fun q h1 h2 => ?_, hH.2.2⟩
  have hq : q < gB G := Nat.lt_of_not_le h2
  rw [hH.1.2.2.1 q hq, X.2.2.2.2.2.2.2.2.2.2 q hq]
theorem Hd.P1 {G : GE} {h : PH} {H : Heap} (hH : Hd G h H) {q : Nat} {c : PC} (hc : h.2 q = some c) : va_P (gD G) vwCl [(q, toE G c)] H := by
  intro k x hx
  have hz : k < 1 := (List.getElem?_eq_some_iff.mp hx).1
  rw [show k = 0 by omega] at hx
  cases hx
  exact (hH.2.2.2 q c hc).1
theorem Hd.D1 {G : GE} {h : PH} {H : Heap} (hH : Hd G h H) {q : Nat} {c : PC} (hc : h.2 q = some c) : va_D (gA G) [(q, toE G c)] := by
  refine ⟨fun i j x y hi hj _ => ?_, fun k x hx => ?_⟩
  · have h1 : i < 1 := (List.getElem?_eq_some_iff.mp hi).1
    have h2 : j < 1 := (List.getElem?_eq_some_iff.mp hj).1
    omega
  · have hz : k < 1 := (List.getElem?_eq_some_iff.mp hx).1
    rw [show k = 0 by omega] at hx
    cases hx
    exact (hH.2.2.2 q c hc).2
/-- behind a write at q -/
theorem Hd.set {G : GE} {h : PH} {H H1 : Heap} (hH : Hd G h H) {q : Nat} {c c2 : PC} (hc : h.2 q = some c) (h1 : va_P (gD G) vwCl [(q, toE G c2)] H1) (hz : H1.size = H.size) (oq : ∀ x : Nat, x ≠ q → H1[x]? = H[x]?) : Hd G (h.1, va_up h.2 q (some c2)) H1 := by
  obtain ⟨a1, a2, a3, a4⟩ := hH
  have hqb := (a4 q c hc).2
  refine ⟨by rw [hz]; exact a1, a2, fun x hx => ?_, fun x cx hx => ?_⟩
  · rw [oq x (by omega)]
    exact a3 x hx
  · by_cases e : x = q
    · subst e
      have hx2 : (some c2 : Option PC) = some cx := by
        have := hx
        simpa [va_up] using this
      cases hx2
      exact ⟨h1 0 _ rfl, hqb⟩
    · have hx2 : h.2 x = some cx := by simpa [va_up, e] using hx
      exact ⟨(a4 x cx hx2).1.kept (oq x e), (a4 x cx hx2).2⟩
/-- behind a making -/
theorem Hd.new {G : GE} {h : PH} {H H1 : Heap} (hH : Hd G h H) {c2 : PC} (h1 : va_P (gD G) vwCl [(H.size, toE G c2)] H1) (hz : H1.size = H.size + 1) (oq : ∀ x : Nat, x < H.size → H1[x]? = H[x]?) : Hd G (h.1 + 1, va_up h.2 h.1 (some c2)) H1 := by
  obtain ⟨a1, a2, a3, a4⟩ := hH
  refine ⟨by rw [hz, a1], Nat.le_succ_of_le a2, fun x hx => ?_, fun x cx hx => ?_⟩
  · rw [oq x (by rw [a1]; exact Nat.lt_of_lt_of_le hx a2)]
    exact a3 x hx
  · by_cases e : x = h.1
    · subst e
      have hx2 : (some c2 : Option PC) = some cx := by
        have := hx
        simpa [va_up] using this
      cases hx2
      rw [← a1]
      exact ⟨h1 0 _ rfl, by rw [a1]; exact a2⟩
    · have hx2 : h.2 x = some cx := by simpa [va_up, e] using hx
      exact ⟨(a4 x cx hx2).1.kept (oq x ((a4 x cx hx2).1.lt)), (a4 x cx hx2).2⟩
end
section
/-! ===== rows over pure heaps: memory ===== -/
def FG (own : String) (index ci k : Nat) : Prop := ∃ (C : String) (T : u_T) (N : Nat) (ref : String), vwCl[ci]? = some (C, T, N) ∧ k < N ∧ (∀ w ∈ u_ws C T N, w ∈ W0) ∧
  (Cond.fieldLink own index ref (T k).2.1 (T k).2.2.1 ∈ W0 ∨ ∃ host, Cond.fieldLinkNest own index ref (T k).2.1 (T k).2.2.1 host ∈ NW) ∧ (ref = (T k).1 ∨ Cond.sameField ref (T k).1 (T k).2.1 (T k).2.2.1 ∈ W0)
def FP (own nm : String) (index ci k : Nat) (ty : FieldType) : Prop := ∃ (C : String) (T : u_T) (N : Nat) (ref : String) (ty0 : Nat → FieldType), vwCl[ci]? = some (C, T, N) ∧ k < N ∧ (∀ w ∈ u_ws C T N, w ∈ W0) ∧
  (∀ k, k < N → parseFieldDescriptor (T k).2.2.1 = some (ty0 k)) ∧ (∀ a, a < N → ∀ b, b < N → a ≠ b → (T a).2.1 ≠ (T b).2.1) ∧ parseFieldDescriptor (T k).2.2.1 = some ty ∧ (ref = (T k).1 ∨ Cond.sameField ref (T k).1 (T k).2.1 (T k).2.2.1 ∈ W0) ∧
  (((T k).2.2.2 = false ∧ Cond.fieldLink own index ref (T k).2.1 (T k).2.2.1 ∈ W0) ∨ ((T k).2.2.2 = false ∧ ∃ host, Cond.fieldLinkNest own index ref (T k).2.1 (T k).2.2.1 host ∈ NW) ∨ ((T k).2.2.2 = true ∧ nm = "<init>" ∧ (T k).1 = own ∧ Cond.fieldLink own index ref (T k).2.1 (T k).2.2.1 ∈ W0))
theorem oGet_spec {ci : Nat} {h : PH} {q k : Nat} {v : Value} (e : oGet ci h q k = some v) : ∃ fs, h.2 q = some (.inr (ci, fs)) ∧ fs[k]? = some v := by
  unfold oGet at e
  split at e
  · rename_i c fs hq
    split at e
    · rename_i hc
      subst hc
      exact ⟨fs, hq, e⟩
    · cases e
  · cases e
theorem gI_spec {ci : Nat} {h : PH} {q k : Nat} {x : Int32} (e : gI ci h q k = some x) : oGet ci h q k = some (.int x) := by
  unfold gI at e
  split at e
  · cases e; assumption
  · cases e
theorem gR_spec {ci : Nat} {h : PH} {q k : Nat} {x : Nat} (e : gR ci h q k = some x) : oGet ci h q k = some (.ref x) := by
  unfold gR at e
  split at e
  · cases e; assumption
  · cases e
theorem sF_spec {ci : Nat} {h h' : PH} {q k : Nat} {v : Value} (e : sF ci h q k v = some h') : ∃ fs, h.2 q = some (.inr (ci, fs)) ∧ k < fs.length ∧ h' = (h.1, va_up h.2 q (some (.inr (ci, fs.set k v)))) := by
  unfold sF at e
  split at e
  · rename_i c fs hq
    split at e
    · rename_i hc
      obtain ⟨rfl, hl⟩ := hc
      exact ⟨fs, hq, hl, (Option.some.inj e).symm⟩
    · cases e
  · cases e
theorem isC_spec {ci : Nat} {h : PH} {q : Nat} {u : Unit} (e : isC ci h q = some u) : ∃ fs, h.2 q = some (.inr (ci, fs)) := by
  unfold isC at e
  split at e
  · rename_i c fs hq
    split at e
    · rename_i hc
      subst hc
      exact ⟨fs, hq⟩
    · cases e
  · cases e
theorem isO_spec {h : PH} {q : Nat} {u : Unit} (e : isO h q = some u) : ∃ ci fs, h.2 q = some (.inr (ci, fs)) ∧ ci < 10 := by
  unfold isO at e
  split at e
  · rename_i c fs hq
    split at e
    · rename_i hc
      exact ⟨c, fs, hq, hc⟩
    · cases e
  · cases e
theorem aI_spec {h : PH} {q : Nat} {i x : Int32} (e : aI h q i = some x) : ∃ n f, h.2 q = some (.inl (0, n, .inl f)) ∧ vp_in i n ∧ x = f i.toNatClampNeg := by
  unfold aI at e
  split at e
  · rename_i k n f hq
    split at e
    · rename_i hc
      obtain ⟨rfl, hl⟩ := hc
      exact ⟨n, f, hq, hl, (Option.some.inj e).symm⟩
    · cases e
  · cases e
theorem aIs_spec {h h' : PH} {q : Nat} {i x : Int32} (e : aIs h q i x = some h') : ∃ n f, h.2 q = some (.inl (0, n, .inl f)) ∧ vp_in i n ∧ h' = (h.1, va_up h.2 q (some (.inl (0, n, .inl (upd f i.toNatClampNeg x))))) := by
  unfold aIs at e
  split at e
  · rename_i k n f hq
    split at e
    · rename_i hc
      obtain ⟨rfl, hl⟩ := hc
      exact ⟨n, f, hq, hl, (Option.some.inj e).symm⟩
    · cases e
  · cases e
theorem aZ_spec {h : PH} {q : Nat} {i x : Int32} (e : aZ h q i = some x) : ∃ n f, h.2 q = some (.inl (2, n, .inl f)) ∧ vp_in i n ∧ x = f i.toNatClampNeg := by
  unfold aZ at e
  split at e
  · rename_i k n f hq
    split at e
    · rename_i hc
      obtain ⟨rfl, hl⟩ := hc
      exact ⟨n, f, hq, hl, (Option.some.inj e).symm⟩
    · cases e
  · cases e
theorem aZs_spec {h h' : PH} {q : Nat} {i x : Int32} (e : aZs h q i x = some h') : ∃ n f, h.2 q = some (.inl (2, n, .inl f)) ∧ (x = 0 ∨ x = 1) ∧ vp_in i n ∧ h' = (h.1, va_up h.2 q (some (.inl (2, n, .inl (upd f i.toNatClampNeg x))))) := by
  unfold aZs at e
  split at e
  · rename_i k n f hq
    split at e
    · rename_i hc
      obtain ⟨rfl, hx, hl⟩ := hc
      exact ⟨n, f, hq, hx, hl, (Option.some.inj e).symm⟩
    · cases e
  · cases e
theorem aJ_spec {h : PH} {q : Nat} {i : Int32} {x : Int64} (e : aJ h q i = some x) : ∃ n f, h.2 q = some (.inl (3, n, .inr (.inl f))) ∧ vp_in i n ∧ x = f i.toNatClampNeg := by
  unfold aJ at e
  split at e
  · rename_i k n f hq
    split at e
    · rename_i hc
      obtain ⟨rfl, hl⟩ := hc
      exact ⟨n, f, hq, hl, (Option.some.inj e).symm⟩
    · cases e
  · cases e
theorem aJs_spec {h h' : PH} {q : Nat} {i : Int32} {x : Int64} (e : aJs h q i x = some h') : ∃ n f, h.2 q = some (.inl (3, n, .inr (.inl f))) ∧ vp_in i n ∧ h' = (h.1, va_up h.2 q (some (.inl (3, n, .inr (.inl (vp_updL f i.toNatClampNeg x)))))) := by
  unfold aJs at e
  split at e
  · rename_i k n f hq
    split at e
    · rename_i hc
      obtain ⟨rfl, hl⟩ := hc
      exact ⟨n, f, hq, hl, (Option.some.inj e).symm⟩
    · cases e
  · cases e
theorem aR_spec {h : PH} {q : Nat} {i : Int32} {x : Nat} (e : aR h q i = some x) : ∃ n f, h.2 q = some (.inl (1, n, .inr (.inr (.inr (.inr f))))) ∧ vp_in i n ∧ f i.toNatClampNeg = some x := by
  unfold aR at e
  split at e
  · rename_i k n f hq
    split at e
    · rename_i hc
      obtain ⟨rfl, hl⟩ := hc
      exact ⟨n, f, hq, hl, e⟩
    · cases e
  · cases e
theorem aRs_spec {h h' : PH} {q : Nat} {i : Int32} {r : Option Nat} (e : aRs h q i r = some h') : ∃ n f, h.2 q = some (.inl (1, n, .inr (.inr (.inr (.inr f))))) ∧ vp_in i n ∧ h' = (h.1, va_up h.2 q (some (.inl (1, n, .inr (.inr (.inr (.inr (va_up f i.toNatClampNeg r)))))))) := by
  unfold aRs at e
  split at e
  · rename_i k n f hq
    split at e
    · rename_i hc
      obtain ⟨rfl, hl⟩ := hc
      exact ⟨n, f, hq, hl, (Option.some.inj e).symm⟩
    · cases e
  · cases e
section PRW
variable {G : GE} {p : Program} {l : Launch} {e : Env} {R : Room} {s : State} {m : MethodId} {args : Array Value} {below : List Frame} {meth : Method} {c : Code} {H : Heap} {locs : List Loc} {cells slots : Nat} {Q : State → Prop}
variable {cc : ByteArray} {nL : Nat} {own nm : String} {ret : Option FieldType} {pc : Nat} {ls : Array Slot} {rest : List Value} {h : PH} {β : Type} {Rr : β}
theorem Hx.set {c0 c2 : PC} {q k : Nat} {H1 : Heap} (hH : Hx G s h H locs) (hc : h.2 q = some c0) (h1 : va_P (gD G) vwCl [(q, toE G c2)] H1) (hz : H1.size = H.size) (oq : ∀ x : Nat, x ≠ q → H1[x]? = H[x]?) : Hx G s (h.1, va_up h.2 q (some c2)) H1 (locs ++ [⟨q, k⟩]) :=
  ⟨hH.1.set hc h1 hz oq, by rw [hz]; exact hH.2.1, t_lc hH.2.2 (hH.1.2.2.2 q c0 hc).2⟩
theorem Hx.new {c2 : PC} {H1 : Heap} (hH : Hx G s h H locs) (h1 : va_P (gD G) vwCl [(H.size, toE G c2)] H1) (hz : H1.size = H.size + 1) (oq : ∀ x : Nat, x < H.size → H1[x]? = H[x]?) : Hx G s (h.1 + 1, va_up h.2 h.1 (some c2)) H1 locs :=
  ⟨hH.1.new h1 hz oq, by rw [hz]; exact Nat.le_succ_of_le hH.2.1, hH.2.2⟩
theorem p_get (X : Cx G p s m args meth c cc nL own nm ret) (hH : Hx G s h H locs) {index ci k : Nat} (hF : FG own index ci k) {q : Nat} {v : Value} (hv : oGet ci h q k = some v) (hdg : decode cc pc = .ok (.getfield index, 3))
    (kk : W p l e R s m args below meth c H locs cells slots Q (F0 m (pc + 3) ls (v :: rest))) : W p l e R s m args below meth c H locs cells slots Q (F0 m pc ls (.ref q :: rest)) := by
  obtain ⟨C, T, N, ref, hc, hk, hin, hlink, hsame⟩ := hF
  obtain ⟨hx, hb, -, hown, hts, hE, -⟩ := X
  obtain ⟨fs, hq, hfs⟩ := oGet_spec hv
  have hsm : ∀ x, s.fieldFound? (T k).1 (T k).2.1 (T k).2.2.1 = some x → s.fieldFound? ref (T k).2.1 (T k).2.2.1 = some x := by
    rcases hsame with hs | hs
    · rw [hs]; exact fun _ h => h
    · exact u_same (hts _ hs)
  have hP := hH.1.P1 hq
  rcases hlink with hl | ⟨host, hl⟩
  · exact va_get (cl := vwCl) (Ts := W0) hx hb hts hin hown hE.1 hP 0 (fs := fs) rfl hc k hk (hts _ hl) hsm hfs hdg kk
  · exact va_getN (cl := vwCl) (Ts := W0) hx hb hts hin hown hE.1 hP 0 (fs := fs) rfl hc k hk (va_Nw.use rfl (hE.2.2.2.1 _ hl)) hsm hfs hdg kk
theorem p_getI (X : Cx G p s m args meth c cc nL own nm ret) (hH : Hx G s h H locs) {index ci k : Nat} (hF : FG own index ci k) {q : Nat} {F : Int32 → Option β} (hf : rd (gI ci h q k) F = some Rr) (hdg : decode cc pc = .ok (.getfield index, 3))
    (kk : ∀ v, gI ci h q k = some v → F v = some Rr → W p l e R s m args below meth c H locs cells slots Q (F0 m (pc + 3) ls (.int v :: rest))) : W p l e R s m args below meth c H locs cells slots Q (F0 m pc ls (.ref q :: rest)) := by
  obtain ⟨v, h1, h2⟩ := rd_some hf
  exact p_get X hH hF (gI_spec h1) hdg (kk v h1 h2)
theorem p_getR (X : Cx G p s m args meth c cc nL own nm ret) (hH : Hx G s h H locs) {index ci k : Nat} (hF : FG own index ci k) {q : Nat} {F : Nat → Option β} (hf : rd (gR ci h q k) F = some Rr) (hdg : decode cc pc = .ok (.getfield index, 3))
    (kk : ∀ v, gR ci h q k = some v → F v = some Rr → W p l e R s m args below meth c H locs cells slots Q (F0 m (pc + 3) ls (.ref v :: rest))) : W p l e R s m args below meth c H locs cells slots Q (F0 m pc ls (.ref q :: rest)) := by
  obtain ⟨v, h1, h2⟩ := rd_some hf
  exact p_get X hH hF (gR_spec h1) hdg (kk v h1 h2)
theorem p_put (X : Cx G p s m args meth c cc nL own nm ret) (hH : Hx G s h H locs) {index ci k : Nat} {ty : FieldType} (hF : FP own nm index ci k ty) {q : Nat} {v : Value} (hn : narrow ty v = v) (hfit : fits ty v = true) {F : PH → Option β} (hf : rd (sF ci h q k v) F = some Rr) (hdg : decode cc pc = .ok (.putfield index, 3))
    (kk : ∀ (h' : PH) (H' : Heap) (locs' : List Loc), Hx G s h' H' locs' → F h' = some Rr → W p l e R s m args below meth c H' locs' cells slots Q (F0 m (pc + 3) ls rest)) : W p l e R s m args below meth c H locs cells slots Q (F0 m pc ls (v :: .ref q :: rest)) := by
  obtain ⟨h', h1, h2⟩ := rd_some hf
  obtain ⟨fs, hq, hl, rfl⟩ := sF_spec h1
  obtain ⟨C, T, N, ref, ty0, hc, hk, hin, hty, hnm, hd, hsame, hlink⟩ := hF
  obtain ⟨hx, hb, -, hown, hts, hE, -, hmn, -⟩ := X
  have hsm : ∀ x, s.fieldFound? (T k).1 (T k).2.1 (T k).2.2.1 = some x → s.fieldFound? ref (T k).2.1 (T k).2.2.1 = some x := by
    rcases hsame with hs | hs
    · rw [hs]; exact fun _ h => h
    · exact u_same (hts _ hs)
  have hP := hH.1.P1 hq
  have hK := hE.1
  have hap := va_apart (own := own) hts hin ty0 hty hnm hK hc
  obtain ⟨r, h1', cell, q1, q2, q3, q4⟩ := hP 0 _ rfl
  have hr : r = (C, T, N) := Option.some.inj (h1'.symm.trans hc)
  subst hr
  obtain ⟨hS, hfc, kC, hkC, hkind⟩ := hK.1 ci _ hc
  obtain ⟨cf, kf, fi, f, hi, hsl⟩ := hS k hk
  have hlay := hts _ (hin _ (u_in_lay hk))
  unfold u_lay at hlay
  have hst := (u_facts hfc hkC (u_lays hts hin hk) hi).1
  have fin : ∀ H' : Heap, H'[q]? = some (cell.setSlot f.slot v) → H'.size = H.size → (∀ x, x ≠ q → H'[x]? = H[x]?) → Hx G s (h.1, va_up h.2 q (some (.inr (ci, fs.set k v)))) H' (locs ++ [⟨q, f.slot⟩]) := fun H' e1 e2 e3 => by
    rw [hsl] at e1
    refine hH.set hq (fun j x hj => ?_) e2 e3
    have hz : j < 1 := (List.getElem?_eq_some_iff.mp hj).1
    rw [show j = 0 by omega] at hj
    cases hj
    exact ⟨_, hc, t_OB.to (V := updV (vp_V fs) k v) ⟨_, e1, q2, q3, t_set q4 hap hk v⟩ (fun j _ => vp_updV_set hl v j)⟩
  rcases hlink with ⟨hfin, hl2⟩ | ⟨hfin, host, hl2⟩ | ⟨hfin, hnm2, hdecl, hl2⟩
  · rw [if_neg (by rw [hfin]; decide)] at hlay
    have h6 := u_store hfc hkC hkind hlay hi hd hn hfit
    exact W.putK hx hb (f := f) ⟨hown, hts _ hl2, ⟨_, _, _, hsm _ hi⟩, hst⟩ (by rw [q2]; exact h6) q1 q3 (by rw [hsl]; exact k2_hasslot (q4 k hk)) rfl rfl hdg fun H' e1 e2 e3 => kk _ _ _ (fin H' e1 e2 e3) h2
  · rw [if_neg (by rw [hfin]; decide)] at hlay
    have h6 := u_store hfc hkC hkind hlay hi hd hn hfit
    exact va_WputK hx hb (f := f) hown (va_Nw.use rfl (hE.2.2.2.1 _ hl2)) (hsm _ hi) hst (by rw [q2]; exact h6) q1 q3 (by rw [hsl]; exact k2_hasslot (q4 k hk)) rfl rfl hdg fun H' e1 e2 e3 => kk _ _ _ (fin H' e1 e2 e3) h2
  · rw [if_pos hfin] at hlay
    have hcf : m.cls = cf := by
      obtain ⟨_, _, c', _, _, _, -, -, hf', -, -, -, hown2, -⟩ := Cond.laysFinal_spec hlay
      have e1 : c' = cf := by have := hi.symm.trans hf'; simp at this; exact this.1.symm
      rw [hdecl] at hown2
      rw [← e1]; exact Option.some.inj (hown.symm.trans hown2)
    have h6 := u_fits hfc hkC hkind (Or.inr hlay) hi hd hn hfit
    exact W.putFinK hx hb hown (hts _ hl2) (hsm _ hi) hst hcf (hmn.trans hnm2) (by rw [q2]; exact h6) q1 q3 (by rw [hsl]; exact k2_hasslot (q4 k hk)) rfl rfl hdg fun H' e1 e2 e3 => kk _ _ _ (fin H' e1 e2 e3) h2
/-! arrays -/
theorem hK0 {G : GE} {s : State} (hE : EvG G s) : va_K (gD G) vwCl (tysL G) s := hE.1
theorem p_iald (X : Cx G p s m args meth c cc nL own nm ret) (hH : Hx G s h H locs) {q : Nat} {i : Int32} {F : Int32 → Option β} (hf : rd (aI h q i) F = some Rr) (hdg : decode cc pc = .ok (.iaload, 1))
    (kk : ∀ v, aI h q i = some v → F v = some Rr → W p l e R s m args below meth c H locs cells slots Q (F0 m (pc + 1) ls (.int v :: rest))) : W p l e R s m args below meth c H locs cells slots Q (F0 m pc ls (.int i :: .ref q :: rest)) := by
  obtain ⟨v, h1, h2⟩ := rd_some hf
  obtain ⟨n, f, hq, hin, hv⟩ := aI_spec h1
  obtain ⟨hx, hb, -, -, -, hE, -⟩ := X
  exact va_iald hx hb hE.1 (hH.1.P1 hq) 0 0 rfl rfl hin hdg (by rw [← hv]; exact kk v h1 h2)
theorem p_zald (X : Cx G p s m args meth c cc nL own nm ret) (hH : Hx G s h H locs) {q : Nat} {i : Int32} {F : Int32 → Option β} (hf : rd (aZ h q i) F = some Rr) (hdg : decode cc pc = .ok (.baload, 1))
    (kk : ∀ v, aZ h q i = some v → F v = some Rr → W p l e R s m args below meth c H locs cells slots Q (F0 m (pc + 1) ls (.int v :: rest))) : W p l e R s m args below meth c H locs cells slots Q (F0 m pc ls (.int i :: .ref q :: rest)) := by
  obtain ⟨v, h1, h2⟩ := rd_some hf
  obtain ⟨n, f, hq, hin, hv⟩ := aZ_spec h1
  obtain ⟨hx, hb, -, -, -, hE, -⟩ := X
  exact va_zald hx hb hE.1 (hH.1.P1 hq) 0 2 rfl rfl hin hdg (by rw [← hv]; exact kk v h1 h2)
theorem p_lald (X : Cx G p s m args meth c cc nL own nm ret) (hH : Hx G s h H locs) {q : Nat} {i : Int32} {F : Int64 → Option β} (hf : rd (aJ h q i) F = some Rr) (hdg : decode cc pc = .ok (.laload, 1))
    (kk : ∀ v, aJ h q i = some v → F v = some Rr → W p l e R s m args below meth c H locs cells slots Q (F0 m (pc + 1) ls (.long v :: rest))) : W p l e R s m args below meth c H locs cells slots Q (F0 m pc ls (.int i :: .ref q :: rest)) := by
  obtain ⟨v, h1, h2⟩ := rd_some hf
  obtain ⟨n, f, hq, hin, hv⟩ := aJ_spec h1
  obtain ⟨hx, hb, -, -, -, hE, -⟩ := X
  exact va_lald hx hb hE.1 (hH.1.P1 hq) 0 3 rfl rfl hin hdg (by rw [← hv]; exact kk v h1 h2)
theorem p_aald (X : Cx G p s m args meth c cc nL own nm ret) (hH : Hx G s h H locs) {q : Nat} {i : Int32} {F : Nat → Option β} (hf : rd (aR h q i) F = some Rr) (hdg : decode cc pc = .ok (.aaload, 1))
    (kk : ∀ v, aR h q i = some v → F v = some Rr → W p l e R s m args below meth c H locs cells slots Q (F0 m (pc + 1) ls (.ref v :: rest))) : W p l e R s m args below meth c H locs cells slots Q (F0 m pc ls (.int i :: .ref q :: rest)) := by
  obtain ⟨v, h1, h2⟩ := rd_some hf
  obtain ⟨n, f, hq, hin, hv⟩ := aR_spec h1
  obtain ⟨hx, hb, -, -, -, hE, -⟩ := X
  exact va_aldq hx hb hE.1 (hH.1.P1 hq) 0 1 rfl rfl hin hdg (by rw [hv]; exact kk v h1 h2)
theorem p_iast (X : Cx G p s m args meth c cc nL own nm ret) (hH : Hx G s h H locs) {q : Nat} {i x : Int32} {F : PH → Option β} (hf : rd (aIs h q i x) F = some Rr) (hdg : decode cc pc = .ok (.iastore, 1))
    (kk : ∀ (h' : PH) (H' : Heap) (locs' : List Loc), Hx G s h' H' locs' → F h' = some Rr → W p l e R s m args below meth c H' locs' cells slots Q (F0 m (pc + 1) ls rest)) : W p l e R s m args below meth c H locs cells slots Q (F0 m pc ls (.int x :: .int i :: .ref q :: rest)) := by
  obtain ⟨h', h1, h2⟩ := rd_some hf
  obtain ⟨n, f, hq, hin, rfl⟩ := aIs_spec h1
  obtain ⟨hx, hb, -, -, -, hE, -⟩ := X
  have hP := hH.1.P1 hq
  refine W.iast hx hb (hP 0 _ rfl) ((hE.1.2 0 _ rfl).1 n (fun j => .int (f j))) (fun q => by cases q) (by show ¬ (i < 0 ∨ (arrV _ _ _).slots.size ≤ _); rw [arrV_size]; exact hin) rfl rfl hdg fun H1 e1 z oq => kk _ H1 _ (hH.set hq (fun j y hj => ?_) z oq) h2
  have hz : j < 1 := (List.getElem?_eq_some_iff.mp hj).1
  rw [show j = 0 by omega] at hj
  cases hj
  show H1[q]? = some (vp_cell _ _)
  rw [e1]
  rw [vp_cell_i, vp_cell_i, arrV_store]
  congr 2
  funext y
  by_cases hy : y = i.toNatClampNeg
  · subst hy
    simp [updV, upd]
  · simp [updV, upd, hy]
theorem p_zast (X : Cx G p s m args meth c cc nL own nm ret) (hH : Hx G s h H locs) {q : Nat} {i x : Int32} {F : PH → Option β} (hf : rd (aZs h q i x) F = some Rr) (hdg : decode cc pc = .ok (.bastore, 1))
    (kk : ∀ (h' : PH) (H' : Heap) (locs' : List Loc), Hx G s h' H' locs' → F h' = some Rr → W p l e R s m args below meth c H' locs' cells slots Q (F0 m (pc + 1) ls rest)) : W p l e R s m args below meth c H locs cells slots Q (F0 m pc ls (.int x :: .int i :: .ref q :: rest)) := by
  obtain ⟨h', h1, h2⟩ := rd_some hf
  obtain ⟨n, f, hq, hx01, hin, rfl⟩ := aZs_spec h1
  obtain ⟨hx, hb, -, -, -, hE, -⟩ := X
  have hP := hH.1.P1 hq
  have hnar : narrow .boolean (.int x) = .int x := by rcases hx01 with rfl | rfl <;> rfl
  refine W.zast hx hb (hP 0 _ rfl) ((hE.1.2 2 _ rfl).1 n (fun j => .int (f j))) (fun q => by cases q) (by show ¬ (i < 0 ∨ (arrV _ _ _).slots.size ≤ _); rw [arrV_size]; exact hin) rfl rfl hdg fun H1 e1 z oq => kk _ H1 _ (hH.set hq (fun j y hj => ?_) z oq) h2
  have hz : j < 1 := (List.getElem?_eq_some_iff.mp hj).1
  rw [show j = 0 by omega] at hj
  cases hj
  show H1[q]? = some (vp_cell _ _)
  rw [e1]
  rw [vp_cell_i, vp_cell_i, arrV_store]
  congr 2
  funext y
  by_cases hy : y = i.toNatClampNeg
  · subst hy
    simp [updV, upd, hnar]
  · simp [updV, upd, hy]
theorem p_last (X : Cx G p s m args meth c cc nL own nm ret) (hH : Hx G s h H locs) {q : Nat} {i : Int32} {x : Int64} {F : PH → Option β} (hf : rd (aJs h q i x) F = some Rr) (hdg : decode cc pc = .ok (.lastore, 1))
    (kk : ∀ (h' : PH) (H' : Heap) (locs' : List Loc), Hx G s h' H' locs' → F h' = some Rr → W p l e R s m args below meth c H' locs' cells slots Q (F0 m (pc + 1) ls rest)) : W p l e R s m args below meth c H locs cells slots Q (F0 m pc ls (.long x :: .int i :: .ref q :: rest)) := by
  obtain ⟨h', h1, h2⟩ := rd_some hf
  obtain ⟨n, f, hq, hin, rfl⟩ := aJs_spec h1
  obtain ⟨hx, hb, -, -, -, hE, -⟩ := X
  have hP := hH.1.P1 hq
  refine W.last hx hb (hP 0 _ rfl) ((hE.1.2 3 _ rfl).1 n (fun j => .long (f j))) (fun q => by cases q) (by show ¬ (i < 0 ∨ (arrV _ _ _).slots.size ≤ _); rw [arrV_size]; exact hin) rfl rfl hdg fun H1 e1 z oq => kk _ H1 _ (hH.set hq (fun j y hj => ?_) z oq) h2
  have hz : j < 1 := (List.getElem?_eq_some_iff.mp hj).1
  rw [show j = 0 by omega] at hj
  cases hj
  show H1[q]? = some (vp_cell _ _)
  rw [e1]
  rw [vp_cell_l, vp_cell_l, arrV_store]
  congr 2
  funext y
  by_cases hy : y = i.toNatClampNeg
  · subst hy
    simp [updV, vp_updL]
  · simp [updV, vp_updL, hy]
end PRW
end
section
/-! ===== rows over pure heaps: lengths, new cells, casts, statics ===== -/
def FN (own : String) (index ci N : Nat) (fs : List Value) : Prop := ∃ (C : String) (T : u_T) (ty : Nat → FieldType), vwCl[ci]? = some (C, T, N) ∧ (∀ w ∈ u_ws C T N, w ∈ W0) ∧ (∀ k, k < N → parseFieldDescriptor (T k).2.2.1 = some (ty k)) ∧
  Cond.classLink own index C ∈ W0 ∧ Cond.instantiable C N ∈ W0 ∧ Cond.initialized C ∈ W0 ∧ ∀ j, j < N → defaultValue (ty j) = vp_V fs j
section PRX
variable {G : GE} {p : Program} {l : Launch} {e : Env} {R : Room} {s : State} {m : MethodId} {args : Array Value} {below : List Frame} {meth : Method} {c : Code} {H : Heap} {locs : List Loc} {cells slots : Nat} {Q : State → Prop}
variable {cc : ByteArray} {nL : Nat} {own nm : String} {ret : Option FieldType} {pc : Nat} {ls : Array Slot} {rest : List Value} {h : PH} {β : Type} {Rr : β}
theorem hS0 (X : Cx G p s m args meth c cc nL own nm ret) : ∀ a : Nat, a < (gH G).size → ¬ gA G a → s.heap[a]? = (gH G)[a]? := fun a _ h => X.2.2.2.2.2.2.2.2.2.2 a (Nat.lt_of_not_le h)
theorem vp_arr (cA : ClassId) (a : vp_A) : ∃ f : Nat → Value, vp_cell cA a = arrV cA a.1 f := by
  obtain ⟨n, f | f | f | f | f⟩ := a
  · exact ⟨_, vp_cell_i cA n f⟩
  · exact ⟨_, vp_cell_l cA n f⟩
  · exact ⟨_, vp_cell_f cA n f⟩
  · exact ⟨_, vp_cell_d cA n f⟩
  · exact ⟨_, vp_cell_q cA n f⟩
theorem tys_at (G : GE) {k : Nat} (hk : k < 4) : ∃ ty, (tysL G)[k]? = some (gT G k, ty) := by
  rcases (show k = 0 ∨ k = 1 ∨ k = 2 ∨ k = 3 by omega) with rfl | rfl | rfl | rfl <;> exact ⟨_, rfl⟩
theorem p_alen (X : Cx G p s m args meth c cc nL own nm ret) (hH : Hx G s h H locs) {q : Nat} {F : Int32 → Option β} (hf : rd (aLen G h q) F = some Rr) (hdg : decode cc pc = .ok (.arraylength, 1))
    (kk : ∀ v, aLen G h q = some v → F v = some Rr → W p l e R s m args below meth c H locs cells slots Q (F0 m (pc + 1) ls (.int v :: rest))) : W p l e R s m args below meth c H locs cells slots Q (F0 m pc ls (.ref q :: rest)) := by
  obtain ⟨v, h1, h2⟩ := rd_some hf
  have kk := kk v h1 h2
  have hS := Hx.S X hH
  obtain ⟨hx, hb, -, -, -, hE, -⟩ := id X
  unfold aLen at h1
  split at h1
  · rename_i hq
    subst hq
    cases h1
    exact va_tlen hx hb ((hE.2.2.1.2.2).kept (hS0 X)) hS rfl hdg kk
  · split at h1
    · rename_i k n a hc
      split at h1
      · rename_i hk
        cases h1
        have hcell : H[q]? = some (vp_cell (gT G k) (n, a)) := hH.1.P1 hc 0 _ rfl
        obtain ⟨f, hv⟩ := vp_arr (gT G k) (n, a)
        obtain ⟨ty, ht⟩ := tys_at G hk
        rw [hv] at hcell
        exact W.alen hx hb hcell ((hE.1.2 k _ ht).1 n f) (n := nI n) (by rw [arrV_size]; rfl) rfl rfl hdg kk
      · cases h1
    · cases h1
theorem p_new (X : Cx G p s m args meth c cc nL own nm ret) (hH : Hx G s h H locs) {index ci N : Nat} {fs : List Value} (hN : FN own index ci N fs) (hcells : cells + 1 ≤ R.cells) (hslots : slots + N ≤ R.slots) {F : Nat → PH → Option β} (hf : nw h (.inr (ci, fs)) F = some Rr) (hdg : decode cc pc = .ok (.new index, 3))
    (kk : ∀ (q : Nat) (h' : PH) (H' : Heap), Hx G s h' H' locs → F q h' = some Rr → W p l e R s m args below meth c H' locs (cells + 1) (slots + N) Q (F0 m (pc + 3) ls (.ref q :: rest))) : W p l e R s m args below meth c H locs cells slots Q (F0 m pc ls rest) := by
  obtain ⟨C, T, ty, hc, hin, hty, hcl, hinst, hini, hfs⟩ := hN
  obtain ⟨hx, hb, -, hown, hts, hE, -⟩ := id X
  have hKn := hE.1.1 ci _ hc
  refine W.newcK hx hb hown (hts _ hcl) (hts _ hinst) (hts _ hini) rfl hdg hcells hslots hKn.2.1 rfl fun H1 kC hkC e1 z1 o1 => ?_
  have hp : va_P (gD G) vwCl [(H.size, toE G (.inr (ci, fs)))] H1 := fun j x hj => by
    have hz : j < 1 := (List.getElem?_eq_some_iff.mp hj).1
    rw [show j = 0 by omega] at hj
    cases hj
    exact ⟨_, hc, (u_born ty hts hin hKn hkC e1 hty).to hfs⟩
  have h3 := kk h.1 _ H1 (hH.new hp z1 o1) hf
  rw [← hH.1.1] at h3
  exact h3
theorem p_newp (X : Cx G p s m args meth c cc nL own nm ret) (hH : Hx G s h H locs) {atype : ArrayType} {k : Nat} (hk : (tysL G)[k]? = some (gT G k, newarray.typeOf atype)) (harr : Cond.arrayClass (newarray.typeOf atype) ∈ W0) {a0 : vp_A} {N : Nat} (ha : ∀ cA : ClassId, vp_cell cA a0 = arrV cA N (fun _ => defaultValue (newarray.typeOf atype)))
    {n : Int32} (hn : ¬ n < 0) (hN : n.toNatClampNeg = N) (hbytes : N * componentBytes (newarray.typeOf atype) ≤ 536870912) (hcells : cells + 1 ≤ R.cells) (hslots : slots + N ≤ R.slots) {F : Nat → PH → Option β} (hf : nw h (.inl (k, a0)) F = some Rr) (hdg : decode cc pc = .ok (.newarray atype, 2))
    (kk : ∀ (q : Nat) (h' : PH) (H' : Heap), Hx G s h' H' locs → F q h' = some Rr → W p l e R s m args below meth c H' locs (cells + 1) (slots + N) Q (F0 m (pc + 2) ls (.ref q :: rest))) : W p l e R s m args below meth c H locs cells slots Q (F0 m pc ls (.int n :: rest)) := by
  obtain ⟨hx, hb, -, hown, hts, hE, -⟩ := id X
  refine va_newaK hx hb (hts _ harr) rfl hdg rfl hn hN hbytes hcells hslots rfl fun H1 cA e1 z1 o1 hAr hNm => ?_
  have hcA : cA = gT G k := by
    have h4 := (hE.1.2 k _ hk).2
    have h5 : s.vm.findClass ("[" ++ (newarray.typeOf atype).toString) = some (gT G k) := by
      cases atype <;> exact h4
    exact Option.some.inj (hNm.symm.trans h5)
  subst hcA
  have hp : va_P (gD G) vwCl [(H.size, toE G (.inl (k, a0)))] H1 := fun j x hj => by
    have hz : j < 1 := (List.getElem?_eq_some_iff.mp hj).1
    rw [show j = 0 by omega] at hj
    cases hj
    show H1[H.size]? = some (vp_cell _ _)
    rw [ha]
    exact e1
  have h3 := kk h.1 _ H1 (hH.new hp z1 o1) hf
  rw [← hH.1.1] at h3
  exact h3
theorem p_newI (X : Cx G p s m args meth c cc nL own nm ret) (hH : Hx G s h H locs) (harr : Cond.arrayClass .int ∈ W0) {N : Nat} {n : Int32} (hn : ¬ n < 0) (hN : n.toNatClampNeg = N) (hbytes : N * 4 ≤ 536870912) (hcells : cells + 1 ≤ R.cells) (hslots : slots + N ≤ R.slots) {F : Nat → PH → Option β} (hf : nw h (cI N) F = some Rr) (hdg : decode cc pc = .ok (.newarray .int, 2))
    (kk : ∀ (q : Nat) (h' : PH) (H' : Heap), Hx G s h' H' locs → F q h' = some Rr → W p l e R s m args below meth c H' locs (cells + 1) (slots + N) Q (F0 m (pc + 2) ls (.ref q :: rest))) : W p l e R s m args below meth c H locs cells slots Q (F0 m pc ls (.int n :: rest)) :=
  p_newp X hH (atype := .int) (k := 0) rfl harr (fun _ => rfl) hn hN hbytes hcells hslots hf hdg kk
theorem p_newZ (X : Cx G p s m args meth c cc nL own nm ret) (hH : Hx G s h H locs) (harr : Cond.arrayClass .boolean ∈ W0) {N : Nat} {n : Int32} (hn : ¬ n < 0) (hN : n.toNatClampNeg = N) (hbytes : N * 1 ≤ 536870912) (hcells : cells + 1 ≤ R.cells) (hslots : slots + N ≤ R.slots) {F : Nat → PH → Option β} (hf : nw h (cZ N) F = some Rr) (hdg : decode cc pc = .ok (.newarray .boolean, 2))
    (kk : ∀ (q : Nat) (h' : PH) (H' : Heap), Hx G s h' H' locs → F q h' = some Rr → W p l e R s m args below meth c H' locs (cells + 1) (slots + N) Q (F0 m (pc + 2) ls (.ref q :: rest))) : W p l e R s m args below meth c H locs cells slots Q (F0 m pc ls (.int n :: rest)) :=
  p_newp X hH (atype := .boolean) (k := 2) rfl harr (fun _ => rfl) hn hN hbytes hcells hslots hf hdg kk
theorem p_newJ (X : Cx G p s m args meth c cc nL own nm ret) (hH : Hx G s h H locs) (harr : Cond.arrayClass .long ∈ W0) {N : Nat} {n : Int32} (hn : ¬ n < 0) (hN : n.toNatClampNeg = N) (hbytes : N * 8 ≤ 536870912) (hcells : cells + 1 ≤ R.cells) (hslots : slots + N ≤ R.slots) {F : Nat → PH → Option β} (hf : nw h (cJ N) F = some Rr) (hdg : decode cc pc = .ok (.newarray .long, 2))
    (kk : ∀ (q : Nat) (h' : PH) (H' : Heap), Hx G s h' H' locs → F q h' = some Rr → W p l e R s m args below meth c H' locs (cells + 1) (slots + N) Q (F0 m (pc + 2) ls (.ref q :: rest))) : W p l e R s m args below meth c H locs cells slots Q (F0 m pc ls (.int n :: rest)) :=
  p_newp X hH (atype := .long) (k := 3) rfl harr (fun _ => rfl) hn hN hbytes hcells hslots hf hdg kk
theorem p_newR (X : Cx G p s m args meth c cc nL own nm ret) (hH : Hx G s h H locs) {index : Nat} (hcl : Cond.classLink own index "java/lang/Object" ∈ W0) {B : Nat} {n : Int32} (hbytes : B * 4 ≤ 536870912) (hcells : cells + 1 ≤ R.cells) (hslots : slots + B ≤ R.slots) {F : Nat → PH → Option β} (hf : nwA h n B cR F = some Rr) (hdg : decode cc pc = .ok (.anewarray index, 3))
    (kk : ∀ (q : Nat) (h' : PH) (H' : Heap), Hx G s h' H' locs → F q h' = some Rr → W p l e R s m args below meth c H' locs (cells + 1) (slots + B) Q (F0 m (pc + 3) ls (.ref q :: rest))) : W p l e R s m args below meth c H locs cells slots Q (F0 m pc ls (.int n :: rest)) := by
  obtain ⟨hx, hb, -, hown, hts, hE, -⟩ := id X
  unfold nwA at hf
  split at hf
  case isFalse => cases hf
  rename_i hc
  obtain ⟨hn, hB⟩ := hc
  refine W.anew hx hb hown (hts _ hcl) (va_AO.use hE.2.2.2.2.2.1.2.1) rfl hdg rfl hn (by omega) hcells (by omega) fun cA kA comp f1 f2 f3 f4 => ?_
  generalize hH1 : H.push ({ cls := cA, slots := Array.replicate n.toNatClampNeg .null, vm := .none } : Cell) = H1
  have z1 : H1.size = H.size + 1 := by rw [← hH1, Array.size_push]
  have e1 : H1[H.size]? = some (arrV cA n.toNatClampNeg (fun _ => .null)) := by rw [← hH1, Array.getElem?_push_size, ← arrV_new]
  have o1 : ∀ q : Nat, q < H.size → H1[q]? = H[q]? := fun q hq => by rw [← hH1, Array.getElem?_push, if_neg (Nat.ne_of_lt hq)]
  have hcA : cA = gT G 1 := by
    obtain ⟨_, _, _, _, _, h5⟩ := (hE.1.2 1 (gT G 1, .object "java/lang/Object") rfl).2
    exact Option.some.inj (f1.symm.trans h5)
  subst hcA
  have hp : va_P (gD G) vwCl [(H.size, toE G (cR n.toNatClampNeg))] H1 := fun j x hj => by
    have hz : j < 1 := (List.getElem?_eq_some_iff.mp hj).1
    rw [show j = 0 by omega] at hj
    cases hj
    exact e1
  have h3 := kk h.1 _ H1 (hH.new hp z1 o1) hf
  rw [← hH.1.1] at h3
  exact W.widen (Nat.le_refl _) (by omega) h3
theorem p_cast (X : Cx G p s m args meth c cc nL own nm ret) (hH : Hx G s h H locs) {index ci N : Nat} {C : String} {T : u_T} (hc : vwCl[ci]? = some (C, T, N)) (hl : Cond.classLink own index C ∈ W0) {q : Nat} {F : Unit → Option β} (hf : rd (isC ci h q) F = some Rr) (hdg : decode cc pc = .ok (.checkcast index, 3))
    (kk : ∀ u, F u = some Rr → W p l e R s m args below meth c H locs cells slots Q (F0 m (pc + 3) ls (.ref q :: rest))) : W p l e R s m args below meth c H locs cells slots Q (F0 m pc ls (.ref q :: rest)) := by
  obtain ⟨v, h1, h2⟩ := rd_some hf
  obtain ⟨fs, hq⟩ := isC_spec h1
  obtain ⟨hx, hb, -, hown, hts, hE, -⟩ := id X
  exact va_castS hx hb hown (hts _ hl) (hE.1.1 ci _ hc).2 (va_recv hE.1 (hH.1.P1 hq) (q0 := 0) (ci := ci) (fs := fs) hc rfl) hdg (kk v h2)
theorem p_aast (X : Cx G p s m args meth c cc nL own nm ret) (hH : Hx G s h H locs) {q v : Nat} {i : Int32} {u : Unit} (hv : isO h v = some u) {F : PH → Option β} (hf : rd (aRs h q i (some v)) F = some Rr) (hdg : decode cc pc = .ok (.aastore, 1))
    (hob : ∀ ci, ci < 10 → ∃ C T N, vwCl[ci]? = some (C, T, N) ∧ (C, "java/lang/Object") ∈ owC)
    (kk : ∀ (h' : PH) (H' : Heap) (locs' : List Loc), Hx G s h' H' locs' → F h' = some Rr → W p l e R s m args below meth c H' locs' cells slots Q (F0 m (pc + 1) ls rest)) : W p l e R s m args below meth c H locs cells slots Q (F0 m pc ls (.ref v :: .int i :: .ref q :: rest)) := by
  obtain ⟨h', h1, h2⟩ := rd_some hf
  obtain ⟨n, f, hq, hin, rfl⟩ := aRs_spec h1
  obtain ⟨ci, fs, hvq, hci⟩ := isO_spec hv
  obtain ⟨C, T, N, hc, hcast⟩ := hob ci hci
  obtain ⟨hx, hb, -, -, -, hE, -⟩ := id X
  have hP := hH.1.P1 hq
  have hcs : va_Nw (.castable C "java/lang/Object") s := hE.2.2.2.2.1 _ (List.mem_append_left _ (List.mem_map.mpr ⟨_, hcast, rfl⟩))
  obtain ⟨cellV, g1, g3, ⟨kC, hkC⟩, hasg⟩ : va_Any "java/lang/Object" s H v := va_rAny (E := "java/lang/Object") hE.1 (hH.1.P1 hvq) (q0 := 0) (ci := ci) (fs := fs) rfl hc (fun comp c0 e1 e2 => by
    obtain ⟨c9, t9, f1, f2, f3⟩ := Cond.castable_spec (va_Nw.use (A := #[]) rfl hcs)
    rw [f1] at e2; cases e2
    rw [f2] at e1; cases e1
    exact f3)
  have hlt : i.toNatClampNeg < n := Nat.not_le.mp fun q => hin (Or.inr q)
  have h0 : ¬ i < 0 := fun q => hin (Or.inl q)
  obtain ⟨kA, comp, k1, k2, k3, -⟩ := (hE.1.2 1 (gT G 1, .object "java/lang/Object") rfl).2
  obtain ⟨kE, hkE, -⟩ := Vm.findClass_spec k3
  refine W.aast hx hb (hP 0 _ rfl) (fun q h => by cases h) (fun h => by cases h) k1 k2 rfl hkE ⟨h0, by show _ < (arrV _ _ _).slots.size; rw [arrV_size]; exact hlt⟩ g1 (fun q h => by rw [h] at g3; cases g3) hkC (hasg _ k3) rfl rfl hdg fun H1 e1 z oq => kk _ H1 _ (hH.set hq (fun j y hj => ?_) z oq) h2
  have hz : j < 1 := (List.getElem?_eq_some_iff.mp hj).1
  rw [show j = 0 by omega] at hj
  cases hj
  show H1[q]? = some (vp_cell _ _)
  rw [e1]
  rw [vp_cell_q, vp_cell_q, arrV_store]
  congr 2
  funext y
  by_cases hy : y = i.toNatClampNeg
  · subst hy
    simp [updV, va_up, va_rf]
  · simp [updV, va_up, hy]
theorem p_aastN (X : Cx G p s m args meth c cc nL own nm ret) (hH : Hx G s h H locs) {q : Nat} {i : Int32} {F : PH → Option β} (hf : rd (aRs h q i none) F = some Rr) (hdg : decode cc pc = .ok (.aastore, 1))
    (kk : ∀ (h' : PH) (H' : Heap) (locs' : List Loc), Hx G s h' H' locs' → F h' = some Rr → W p l e R s m args below meth c H' locs' cells slots Q (F0 m (pc + 1) ls rest)) : W p l e R s m args below meth c H locs cells slots Q (F0 m pc ls (.null :: .int i :: .ref q :: rest)) := by
  obtain ⟨h', h1, h2⟩ := rd_some hf
  obtain ⟨n, f, hq, hin, rfl⟩ := aRs_spec h1
  obtain ⟨hx, hb, -, -, -, hE, -⟩ := id X
  have hP := hH.1.P1 hq
  refine va_WaastN (C := "java/lang/Object") hx hb (hP 0 _ rfl) ((hE.1.2 1 _ rfl).1 n (fun j => va_rf (f j))) (fun h => by cases h) (by show ¬ (i < 0 ∨ (arrV _ _ _).slots.size ≤ _); rw [arrV_size]; exact hin) rfl rfl hdg fun H1 e1 z oq => kk _ H1 _ (hH.set hq (fun j y hj => ?_) z oq) h2
  have hz : j < 1 := (List.getElem?_eq_some_iff.mp hj).1
  rw [show j = 0 by omega] at hj
  cases hj
  show H1[q]? = some (vp_cell _ _)
  rw [e1]
  rw [vp_cell_q, vp_cell_q, arrV_store]
  congr 2
  funext y
  by_cases hy : y = i.toNatClampNeg
  · subst hy
    simp [updV, va_up, va_rf]
  · simp [updV, va_up, hy]
/-! statics -/
theorem p_stat (X : Cx G p s m args meth c cc nL own nm ret) (hH : Hx G s h H locs) {C n d : String} {a index : Nat} (hZ : va_Z C n d (.ref a) (gA G) s (gH G)) (hl : Cond.fieldLink own index C n d ∈ W0) (hdg : decode cc pc = .ok (.getstatic index, 3))
    (kk : W p l e R s m args below meth c H locs cells slots Q (F0 m (pc + 3) ls (.ref a :: rest))) : W p l e R s m args below meth c H locs cells slots Q (F0 m pc ls rest) := by
  have hS := Hx.S X hH
  obtain ⟨hx, hb, -, hown, hts, hE, -⟩ := id X
  exact va_gets hx hb (hZ.kept (hS0 X)) hS hown (hts _ hl) (fun _ h => h) hdg kk
theorem p_tlen (X : Cx G p s m args meth c cc nL own nm ret) (hH : Hx G s h H locs) {ty : FieldType} {t N : Nat} {f : Nat → Value} (hT : va_T ty t N f (gA G) s (gH G)) {v : Int32} (hv : Int32.ofNat N = v) (hdg : decode cc pc = .ok (.arraylength, 1))
    (kk : W p l e R s m args below meth c H locs cells slots Q (F0 m (pc + 1) ls (.int v :: rest))) : W p l e R s m args below meth c H locs cells slots Q (F0 m pc ls (.ref t :: rest)) :=
  va_tlen X.1 X.2.1 (hT.kept (hS0 X)) (Hx.S X hH) hv hdg kk
theorem p_ti (X : Cx G p s m args meth c cc nL own nm ret) (hH : Hx G s h H locs) {t : Nat} {g : Nat → Int32} (hT : va_T .int t 8 (fun j => .int (g j)) (gA G) s (gH G)) {i : Int32} {F : Option β} (hf : ti i F = some Rr) (hdg : decode cc pc = .ok (.iaload, 1))
    (kk : F = some Rr → W p l e R s m args below meth c H locs cells slots Q (F0 m (pc + 1) ls (.int (g i.toNatClampNeg) :: rest))) : W p l e R s m args below meth c H locs cells slots Q (F0 m pc ls (.int i :: .ref t :: rest)) := by
  unfold ti at hf
  split at hf
  · rename_i hin
    exact va_ti X.1 X.2.1 (hT.kept (hS0 X)) (Hx.S X hH) hin rfl hdg (kk hf)
  · cases hf
end PRX
end
section
/-! ===== contracts, calls, ends ===== -/
def Qv (G : GE) (v : Option Value) (h' : PH) : Array Value → State → Outcome → State → Prop := fun _ _ oc t => oc = .returned v ∧ Hd G h' t.heap
/-- from the pure heap h the method y answers v and leaves h' -/
def Ct (l : Launch) (y : MethodName) (bytes : ByteArray) (maxL : Nat) (ret : Option FieldType) (rm : Room) (G : GE) (vs : List Value) (h : PH) (v : Option Value) (h' : PH) : Prop :=
  Met l y (.code y bytes maxL ret :: W0) rm (va_Pc vs (fun U => Hd G h U.heap ∧ EvG G U)) (Qv G v h') rm.cells rm.slots (gA G)
abbrev Fq (G : GE) (v : Option Value) (h' : PH) (below : List Frame) (args : Array Value) (s : State) (mc ms : Nat) : State → Prop := MQ below (Qv G v h') args s mc ms (gA G)
theorem Ct.of {l : Launch} {y : MethodName} {bytes : ByteArray} {maxL : Nat} {ret : Option FieldType} {rm : Room} {G : GE} {vs : List Value} {h : PH} {v : Option Value} {h' : PH} (hy : plainName y.cls = true) (hvs : (lg_sl vs).length ≤ maxL)
    (body : ∀ (p : Program) (e : Env) (s : State) (m : MethodId) (args : Array Value) (below : List Frame) (meth : Method) (c : Code) (ls : Array Slot), Cx G p s m args meth c bytes maxL y.cls y.name ret → Hx G s h s.heap [] → lv_has ls maxL (lv_args 0 vs) →
      W p l e rm s m args below meth c s.heap [] 0 0 (Fq G v h' below args s rm.cells rm.slots) (F0 m 0 ls [])) : Ct l y bytes maxL ret rm G vs h v h' := by
  refine Met.ofW (cc := bytes) (maxL := maxL) (ret := ret) hy rfl ?_
  intro p e s m args below meth c s₁ B hml hv
  obtain ⟨rfl, hH, hE⟩ := hv
  have hts := atoms_spec (ws := .code y bytes maxL ret :: W0) B.pre
  have hl := lv_entry vs (n := maxL) hvs
  rw [lg_entry_eq]
  exact body p e s m _ below meth c _ ⟨B.exec, B.bytes, hml, findClass_of_methodNamed B.named, fun w hw => hts w (List.mem_cons_of_mem _ hw), hE, B.notSynchronized, (name_of_methodNamed B.named B.method).1, B.returns, by rw [hH.1]; exact hH.2.1, hH.2.2.1⟩ ⟨hH, Nat.le_refl _, fun z hz => by cases hz⟩ hl
def LK (own : String) (index : Nat) (y : MethodName) : Prop := Cond.methodLink own index y ∈ W0 ∨ ∃ host, Cond.methodLinkNest own index y host ∈ NW
/-- what the tables say of a method that is called -/
def MB (y : MethodName) (bytes : ByteArray) (maxL : Nat) (ret : Option FieldType) (n : Nat) : Prop := Cond.code y bytes maxL ret ∈ W0 ∧ Cond.initialized y.cls ∈ W0 ∧ (y.cls ≠ "java/lang/invoke/MethodHandle" ∧ y.cls ≠ "java/lang/invoke/VarHandle" ∧ (parseMethodDescriptor y.desc).map (fun d => d.parameters.length) = some n)
def MV (y : MethodName) (bytes : ByteArray) (maxL : Nat) (ret : Option FieldType) (n : Nat) : Prop := MB y bytes maxL ret n ∧ Cond.instanceMethod y ∈ W0 ∧ Cond.selects y.cls y y ∈ W0
def MS (y : MethodName) (bytes : ByteArray) (maxL : Nat) (ret : Option FieldType) (n : Nat) : Prop := MB y bytes maxL ret n ∧ Cond.static y ∈ W0
def MI (y : MethodName) (bytes : ByteArray) (maxL : Nat) (n : Nat) : Prop := MB y bytes maxL none n ∧ Cond.instanceMethod y ∈ W0 ∧ y.name = "<init>"
theorem mb_good {y : MethodName} {bytes : ByteArray} {maxL : Nat} {ret : Option FieldType} {n : Nat} (h : MB y bytes maxL ret n) : GoodIn W0 (.code y bytes maxL ret :: W0) := fun w hw => by
  rcases List.mem_cons.mp hw with rfl | hw
  · exact w0_good _ h.1
  · exact w0_good _ hw
section PRC
variable {G : GE} {p : Program} {l : Launch} {e : Env} {R : Room} {s : State} {m : MethodId} {args : Array Value} {below : List Frame} {meth : Method} {c : Code} {H : Heap} {locs : List Loc} {cells slots : Nat} {Q : State → Prop}
variable {cc : ByteArray} {nL : Nat} {own nm : String} {ret : Option FieldType} {pc : Nat} {ls : Array Slot} {st rest : List Value} {h h' : PH} {β : Type} {Rr : β}
variable {y : MethodName} {bytes : ByteArray} {maxL index : Nat} {rt : Option FieldType} {rm : Room} {b : Nat} {As : List Value} {v : Option Value}
theorem ct_blind {vs : List Value} : FrameBlind (va_Pc vs (fun U => Hd G h U.heap ∧ EvG G U)) := fun a U g mk q => ⟨q.1, q.2.1, EvG.same (u := U) (U := U.calling g mk a) rfl q.2.2⟩
theorem p_after {a : Array Value} {mc ms : Nat} (hH : Hx G s h H locs) (hr : va_Run p l e R s m args below meth c H locs cells slots mc ms (F0 m pc ls st) rest (Qv G v h' a) (gA G))
    (kk : ∀ (H' : Heap) (locs' : List Loc), Hx G s h' H' locs' → W p l e R s m args below meth c H' locs' (cells + mc) (slots + ms) Q (F0 m (pc + 3) ls (v.toList ++ rest))) : W p l e R s m args below meth c H locs cells slots Q (F0 m pc ls st) := by
  intro T hT X
  obtain ⟨v', st₀, t, T', L, h0, X', hL, e1, e2, ⟨hv, hd⟩, go⟩ := hr T hT X
  cases hv
  obtain ⟨t2, a1, b1⟩ := kk T'.heap (locs ++ L) ⟨by rw [e1]; exact hd, X'.same.2.1, fun z hz => by
    rcases List.mem_append.mp hz with h1 | h1
    · exact hH.2.2 z h1
    · exact hL z h1⟩ T' rfl X'
  exact ⟨t2, go t2 a1, b1⟩
theorem p_cV (X : Cx G p s m args meth c cc nL own nm ret) (hH : Hx G s h H locs) (hM : Ct l y bytes maxL rt rm G (.ref b :: As) h v h') (hm : MV y bytes maxL rt As.length) (hk : LK own index y) {ci N : Nat} {T : u_T} (hci : vwCl[ci]? = some (y.cls, T, N)) {u : Unit} (hr : isC ci h b = some u)
    (hR : rm.frames + 1 ≤ R.frames ∧ 8 + (maxL + 11) + rm.locals ≤ R.locals) (hst : st = As.reverse ++ .ref b :: rest) (hls : ls.size = nL) (hW : (rest.map fun v => v.category).sum ≤ 8) (hdg : decode cc pc = .ok (.invokevirtual index, 3)) {c2 s2 : Nat} (hf : cells + rm.cells ≤ c2 ∧ c2 ≤ R.cells ∧ slots + rm.slots ≤ s2 ∧ s2 ≤ R.slots)
    (kk : ∀ (H' : Heap) (locs' : List Loc), Hx G s h' H' locs' → W p l e R s m args below meth c H' locs' c2 s2 Q (F0 m (pc + 3) ls (v.toList ++ rest))) : W p l e R s m args below meth c H locs cells slots Q (F0 m pc ls st) := by
  obtain ⟨hx, hb, hml, hown, hts, hE, -⟩ := id X
  obtain ⟨fs, hq⟩ := isC_spec hr
  obtain ⟨hmb, hin, hse⟩ := hm
  have hpre : PreV s H y.cls b (va_Pc (.ref b :: As) (fun U => Hd G h U.heap ∧ EvG G U)) As := ⟨ct_blind, va_recv hE.1 (hH.1.P1 hq) (q0 := 0) (ci := ci) (fs := fs) hci rfl, fun U hU hWm => ⟨rfl, by rw [hU]; exact hH.1, EvG.warm hWm hE⟩⟩
  rcases hk with hk | ⟨host, hk⟩
  · exact p_after hH (va_runV (C := y.cls) (rm := rm) ⟨hx, hb, hml, hown, hts⟩ hM ⟨callB_of As.length hts (mb_good hmb) rfl rfl rfl (hts _ hmb.2.1) (hts _ hk) hmb.2.2 hR, hts _ hin, hts _ hse⟩ hpre rfl rfl hls hst (lv_room hW) hdg ⟨Nat.le_trans hf.1 hf.2.1, Nat.le_trans hf.2.2.1 hf.2.2.2⟩) (fun H' l' q => W.widen hf.1 hf.2.2.1 (kk H' l' q))
  · exact p_after hH (va_runVN (C := y.cls) (rm := rm) ⟨hx, hb, hml, hown, hts⟩ hM ⟨va_cnB As.length hts (mb_good hmb) rfl rfl rfl (hE.2.2.2.1 _ hk) (hts _ hmb.2.1) hmb.2.2 hR, hts _ hin, hts _ hse⟩ hpre rfl rfl hls hst (lv_room hW) hdg ⟨Nat.le_trans hf.1 hf.2.1, Nat.le_trans hf.2.2.1 hf.2.2.2⟩) (fun H' l' q => W.widen hf.1 hf.2.2.1 (kk H' l' q))
theorem p_cS (X : Cx G p s m args meth c cc nL own nm ret) (hH : Hx G s h H locs) (hM : Ct l y bytes maxL rt rm G As h v h') (hm : MS y bytes maxL rt As.length) (hk : LK own index y)
    (hR : rm.frames + 1 ≤ R.frames ∧ 8 + (maxL + 11) + rm.locals ≤ R.locals) (hst : st = As.reverse ++ rest) (hls : ls.size = nL) (hW : (rest.map fun v => v.category).sum ≤ 8) (hdg : decode cc pc = .ok (.invokestatic index, 3)) {c2 s2 : Nat} (hf : cells + rm.cells ≤ c2 ∧ c2 ≤ R.cells ∧ slots + rm.slots ≤ s2 ∧ s2 ≤ R.slots)
    (kk : ∀ (H' : Heap) (locs' : List Loc), Hx G s h' H' locs' → W p l e R s m args below meth c H' locs' c2 s2 Q (F0 m (pc + 3) ls (v.toList ++ rest))) : W p l e R s m args below meth c H locs cells slots Q (F0 m pc ls st) := by
  obtain ⟨hx, hb, hml, hown, hts, hE, -⟩ := id X
  obtain ⟨hmb, hstt⟩ := hm
  have hpre : PreS s H (va_Pc As (fun U => Hd G h U.heap ∧ EvG G U)) As := ⟨ct_blind, fun U hU hWm => ⟨rfl, by rw [hU]; exact hH.1, EvG.warm hWm hE⟩⟩
  rcases hk with hk | ⟨host, hk⟩
  · exact p_after hH (va_runS (rm := rm) ⟨hx, hb, hml, hown, hts⟩ hM ⟨callB_of As.length hts (mb_good hmb) rfl rfl rfl (hts _ hmb.2.1) (hts _ hk) hmb.2.2 hR, hts _ hstt⟩ hpre rfl rfl hls hst (lv_room hW) hdg ⟨Nat.le_trans hf.1 hf.2.1, Nat.le_trans hf.2.2.1 hf.2.2.2⟩) (fun H' l' q => W.widen hf.1 hf.2.2.1 (kk H' l' q))
  · exact p_after hH (va_runSN (rm := rm) ⟨hx, hb, hml, hown, hts⟩ hM ⟨va_cnB As.length hts (mb_good hmb) rfl rfl rfl (hE.2.2.2.1 _ hk) (hts _ hmb.2.1) hmb.2.2 hR, hts _ hstt, trivial⟩ hpre rfl rfl hls hst (lv_room hW) hdg ⟨Nat.le_trans hf.1 hf.2.1, Nat.le_trans hf.2.2.1 hf.2.2.2⟩) (fun H' l' q => W.widen hf.1 hf.2.2.1 (kk H' l' q))
theorem p_cI (X : Cx G p s m args meth c cc nL own nm ret) (hH : Hx G s h H locs) (hM : Ct l y bytes maxL none rm G (.ref b :: As) h v h') (hm : MI y bytes maxL As.length) (hk : LK own index y)
    (hR : rm.frames + 1 ≤ R.frames ∧ 8 + (maxL + 11) + rm.locals ≤ R.locals) (hst : st = As.reverse ++ .ref b :: rest) (hls : ls.size = nL) (hW : (rest.map fun v => v.category).sum ≤ 8) (hdg : decode cc pc = .ok (.invokespecial index, 3)) {c2 s2 : Nat} (hf : cells + rm.cells ≤ c2 ∧ c2 ≤ R.cells ∧ slots + rm.slots ≤ s2 ∧ s2 ≤ R.slots)
    (kk : ∀ (H' : Heap) (locs' : List Loc), Hx G s h' H' locs' → W p l e R s m args below meth c H' locs' c2 s2 Q (F0 m (pc + 3) ls (v.toList ++ rest))) : W p l e R s m args below meth c H locs cells slots Q (F0 m pc ls st) := by
  obtain ⟨hx, hb, hml, hown, hts, hE, -⟩ := id X
  obtain ⟨hmb, hin, hy1⟩ := hm
  have hpre : PreS s H (va_Pc (.ref b :: As) (fun U => Hd G h U.heap ∧ EvG G U)) (.ref b :: As) := ⟨ct_blind, fun U hU hWm => ⟨rfl, by rw [hU]; exact hH.1, EvG.warm hWm hE⟩⟩
  rcases hk with hk | ⟨host, hk⟩
  · exact p_after hH (va_runI (rm := rm) ⟨hx, hb, hml, hown, hts⟩ hM ⟨callB_of As.length hts (mb_good hmb) rfl rfl rfl (hts _ hmb.2.1) (hts _ hk) hmb.2.2 hR, hy1, hts _ hin⟩ hpre rfl rfl hls hst (lv_room hW) hdg ⟨Nat.le_trans hf.1 hf.2.1, Nat.le_trans hf.2.2.1 hf.2.2.2⟩) (fun H' l' q => W.widen hf.1 hf.2.2.1 (kk H' l' q))
  · exact p_after hH (va_runIN (rm := rm) ⟨hx, hb, hml, hown, hts⟩ hM ⟨va_cnB As.length hts (mb_good hmb) rfl rfl rfl (hE.2.2.2.1 _ hk) (hts _ hmb.2.1) hmb.2.2 hR, hy1, hts _ hin⟩ hpre rfl rfl hls hst (lv_room hW) hdg ⟨Nat.le_trans hf.1 hf.2.1, Nat.le_trans hf.2.2.1 hf.2.2.2⟩) (fun H' l' q => W.widen hf.1 hf.2.2.1 (kk H' l' q))
theorem p_cVI (X : Cx G p s m args meth c cc nL own nm ret) (hH : Hx G s h H locs) {ci N : Nat} {T : u_T} (hci : vwCl[ci]? = some (y.cls, T, N)) {o : Option (Int32 × PH)} {F : Int32 → PH → Option β} (hf : rd (isC ci h b) (fun _ => bd o F) = some Rr) (hM : ∀ r h', o = some (r, h') → Ct l y bytes maxL rt rm G (.ref b :: As) h (some (.int r)) h') (hm : MV y bytes maxL rt As.length) (hk : LK own index y)
    (hR : rm.frames + 1 ≤ R.frames ∧ 8 + (maxL + 11) + rm.locals ≤ R.locals) (hst : st = As.reverse ++ .ref b :: rest) (hls : ls.size = nL) (hW : (rest.map fun v => v.category).sum ≤ 8) (hdg : decode cc pc = .ok (.invokevirtual index, 3)) {c2 s2 : Nat} (hcs : cells + rm.cells ≤ c2 ∧ c2 ≤ R.cells ∧ slots + rm.slots ≤ s2 ∧ s2 ≤ R.slots)
    (kk : ∀ (r : Int32) (h' : PH) (H' : Heap) (locs' : List Loc), Hx G s h' H' locs' → F r h' = some Rr → W p l e R s m args below meth c H' locs' c2 s2 Q (F0 m (pc + 3) ls (.int r :: rest))) : W p l e R s m args below meth c H locs cells slots Q (F0 m pc ls st) := by
  obtain ⟨u, hu, hf⟩ := rd_some hf
  obtain ⟨r, h2, ho, hF⟩ := bd_some hf
  exact p_cV X hH (hM r h2 ho) hm hk hci hu hR hst hls hW hdg hcs (fun H' l' q => kk r h2 H' l' q hF)
theorem p_cSI (X : Cx G p s m args meth c cc nL own nm ret) (hH : Hx G s h H locs) {o : Option (Int32 × PH)} {F : Int32 → PH → Option β} (hf : bd o F = some Rr) (hM : ∀ r h', o = some (r, h') → Ct l y bytes maxL rt rm G As h (some (.int r)) h') (hm : MS y bytes maxL rt As.length) (hk : LK own index y)
    (hR : rm.frames + 1 ≤ R.frames ∧ 8 + (maxL + 11) + rm.locals ≤ R.locals) (hst : st = As.reverse ++ rest) (hls : ls.size = nL) (hW : (rest.map fun v => v.category).sum ≤ 8) (hdg : decode cc pc = .ok (.invokestatic index, 3)) {c2 s2 : Nat} (hcs : cells + rm.cells ≤ c2 ∧ c2 ≤ R.cells ∧ slots + rm.slots ≤ s2 ∧ s2 ≤ R.slots)
    (kk : ∀ (r : Int32) (h' : PH) (H' : Heap) (locs' : List Loc), Hx G s h' H' locs' → F r h' = some Rr → W p l e R s m args below meth c H' locs' c2 s2 Q (F0 m (pc + 3) ls (.int r :: rest))) : W p l e R s m args below meth c H locs cells slots Q (F0 m pc ls st) := by
  obtain ⟨r, h2, ho, hF⟩ := bd_some hf
  exact p_cS X hH (hM r h2 ho) hm hk hR hst hls hW hdg hcs (fun H' l' q => kk r h2 H' l' q hF)
theorem p_cVJ (X : Cx G p s m args meth c cc nL own nm ret) (hH : Hx G s h H locs) {ci N : Nat} {T : u_T} (hci : vwCl[ci]? = some (y.cls, T, N)) {o : Option (Int64 × PH)} {F : Int64 → PH → Option β} (hf : rd (isC ci h b) (fun _ => bd o F) = some Rr) (hM : ∀ r h', o = some (r, h') → Ct l y bytes maxL rt rm G (.ref b :: As) h (some (.long r)) h') (hm : MV y bytes maxL rt As.length) (hk : LK own index y)
    (hR : rm.frames + 1 ≤ R.frames ∧ 8 + (maxL + 11) + rm.locals ≤ R.locals) (hst : st = As.reverse ++ .ref b :: rest) (hls : ls.size = nL) (hW : (rest.map fun v => v.category).sum ≤ 8) (hdg : decode cc pc = .ok (.invokevirtual index, 3)) {c2 s2 : Nat} (hcs : cells + rm.cells ≤ c2 ∧ c2 ≤ R.cells ∧ slots + rm.slots ≤ s2 ∧ s2 ≤ R.slots)
    (kk : ∀ (r : Int64) (h' : PH) (H' : Heap) (locs' : List Loc), Hx G s h' H' locs' → F r h' = some Rr → W p l e R s m args below meth c H' locs' c2 s2 Q (F0 m (pc + 3) ls (.long r :: rest))) : W p l e R s m args below meth c H locs cells slots Q (F0 m pc ls st) := by
  obtain ⟨u, hu, hf⟩ := rd_some hf
  obtain ⟨r, h2, ho, hF⟩ := bd_some hf
  exact p_cV X hH (hM r h2 ho) hm hk hci hu hR hst hls hW hdg hcs (fun H' l' q => kk r h2 H' l' q hF)
theorem p_cSJ (X : Cx G p s m args meth c cc nL own nm ret) (hH : Hx G s h H locs) {o : Option (Int64 × PH)} {F : Int64 → PH → Option β} (hf : bd o F = some Rr) (hM : ∀ r h', o = some (r, h') → Ct l y bytes maxL rt rm G As h (some (.long r)) h') (hm : MS y bytes maxL rt As.length) (hk : LK own index y)
    (hR : rm.frames + 1 ≤ R.frames ∧ 8 + (maxL + 11) + rm.locals ≤ R.locals) (hst : st = As.reverse ++ rest) (hls : ls.size = nL) (hW : (rest.map fun v => v.category).sum ≤ 8) (hdg : decode cc pc = .ok (.invokestatic index, 3)) {c2 s2 : Nat} (hcs : cells + rm.cells ≤ c2 ∧ c2 ≤ R.cells ∧ slots + rm.slots ≤ s2 ∧ s2 ≤ R.slots)
    (kk : ∀ (r : Int64) (h' : PH) (H' : Heap) (locs' : List Loc), Hx G s h' H' locs' → F r h' = some Rr → W p l e R s m args below meth c H' locs' c2 s2 Q (F0 m (pc + 3) ls (.long r :: rest))) : W p l e R s m args below meth c H locs cells slots Q (F0 m pc ls st) := by
  obtain ⟨r, h2, ho, hF⟩ := bd_some hf
  exact p_cS X hH (hM r h2 ho) hm hk hR hst hls hW hdg hcs (fun H' l' q => kk r h2 H' l' q hF)
theorem p_cVD (X : Cx G p s m args meth c cc nL own nm ret) (hH : Hx G s h H locs) {ci N : Nat} {T : u_T} (hci : vwCl[ci]? = some (y.cls, T, N)) {o : Option (UInt64 × PH)} {F : UInt64 → PH → Option β} (hf : rd (isC ci h b) (fun _ => bd o F) = some Rr) (hM : ∀ r h', o = some (r, h') → Ct l y bytes maxL rt rm G (.ref b :: As) h (some (.double r)) h') (hm : MV y bytes maxL rt As.length) (hk : LK own index y)
    (hR : rm.frames + 1 ≤ R.frames ∧ 8 + (maxL + 11) + rm.locals ≤ R.locals) (hst : st = As.reverse ++ .ref b :: rest) (hls : ls.size = nL) (hW : (rest.map fun v => v.category).sum ≤ 8) (hdg : decode cc pc = .ok (.invokevirtual index, 3)) {c2 s2 : Nat} (hcs : cells + rm.cells ≤ c2 ∧ c2 ≤ R.cells ∧ slots + rm.slots ≤ s2 ∧ s2 ≤ R.slots)
    (kk : ∀ (r : UInt64) (h' : PH) (H' : Heap) (locs' : List Loc), Hx G s h' H' locs' → F r h' = some Rr → W p l e R s m args below meth c H' locs' c2 s2 Q (F0 m (pc + 3) ls (.double r :: rest))) : W p l e R s m args below meth c H locs cells slots Q (F0 m pc ls st) := by
  obtain ⟨u, hu, hf⟩ := rd_some hf
  obtain ⟨r, h2, ho, hF⟩ := bd_some hf
  exact p_cV X hH (hM r h2 ho) hm hk hci hu hR hst hls hW hdg hcs (fun H' l' q => kk r h2 H' l' q hF)
theorem p_cSD (X : Cx G p s m args meth c cc nL own nm ret) (hH : Hx G s h H locs) {o : Option (UInt64 × PH)} {F : UInt64 → PH → Option β} (hf : bd o F = some Rr) (hM : ∀ r h', o = some (r, h') → Ct l y bytes maxL rt rm G As h (some (.double r)) h') (hm : MS y bytes maxL rt As.length) (hk : LK own index y)
    (hR : rm.frames + 1 ≤ R.frames ∧ 8 + (maxL + 11) + rm.locals ≤ R.locals) (hst : st = As.reverse ++ rest) (hls : ls.size = nL) (hW : (rest.map fun v => v.category).sum ≤ 8) (hdg : decode cc pc = .ok (.invokestatic index, 3)) {c2 s2 : Nat} (hcs : cells + rm.cells ≤ c2 ∧ c2 ≤ R.cells ∧ slots + rm.slots ≤ s2 ∧ s2 ≤ R.slots)
    (kk : ∀ (r : UInt64) (h' : PH) (H' : Heap) (locs' : List Loc), Hx G s h' H' locs' → F r h' = some Rr → W p l e R s m args below meth c H' locs' c2 s2 Q (F0 m (pc + 3) ls (.double r :: rest))) : W p l e R s m args below meth c H locs cells slots Q (F0 m pc ls st) := by
  obtain ⟨r, h2, ho, hF⟩ := bd_some hf
  exact p_cS X hH (hM r h2 ho) hm hk hR hst hls hW hdg hcs (fun H' l' q => kk r h2 H' l' q hF)
theorem p_cVR (X : Cx G p s m args meth c cc nL own nm ret) (hH : Hx G s h H locs) {ci N : Nat} {T : u_T} (hci : vwCl[ci]? = some (y.cls, T, N)) {o : Option (Nat × PH)} {F : Nat → PH → Option β} (hf : rd (isC ci h b) (fun _ => bd o F) = some Rr) (hM : ∀ r h', o = some (r, h') → Ct l y bytes maxL rt rm G (.ref b :: As) h (some (.ref r)) h') (hm : MV y bytes maxL rt As.length) (hk : LK own index y)
    (hR : rm.frames + 1 ≤ R.frames ∧ 8 + (maxL + 11) + rm.locals ≤ R.locals) (hst : st = As.reverse ++ .ref b :: rest) (hls : ls.size = nL) (hW : (rest.map fun v => v.category).sum ≤ 8) (hdg : decode cc pc = .ok (.invokevirtual index, 3)) {c2 s2 : Nat} (hcs : cells + rm.cells ≤ c2 ∧ c2 ≤ R.cells ∧ slots + rm.slots ≤ s2 ∧ s2 ≤ R.slots)
    (kk : ∀ (r : Nat) (h' : PH) (H' : Heap) (locs' : List Loc), Hx G s h' H' locs' → F r h' = some Rr → W p l e R s m args below meth c H' locs' c2 s2 Q (F0 m (pc + 3) ls (.ref r :: rest))) : W p l e R s m args below meth c H locs cells slots Q (F0 m pc ls st) := by
  obtain ⟨u, hu, hf⟩ := rd_some hf
  obtain ⟨r, h2, ho, hF⟩ := bd_some hf
  exact p_cV X hH (hM r h2 ho) hm hk hci hu hR hst hls hW hdg hcs (fun H' l' q => kk r h2 H' l' q hF)
theorem p_cSR (X : Cx G p s m args meth c cc nL own nm ret) (hH : Hx G s h H locs) {o : Option (Nat × PH)} {F : Nat → PH → Option β} (hf : bd o F = some Rr) (hM : ∀ r h', o = some (r, h') → Ct l y bytes maxL rt rm G As h (some (.ref r)) h') (hm : MS y bytes maxL rt As.length) (hk : LK own index y)
    (hR : rm.frames + 1 ≤ R.frames ∧ 8 + (maxL + 11) + rm.locals ≤ R.locals) (hst : st = As.reverse ++ rest) (hls : ls.size = nL) (hW : (rest.map fun v => v.category).sum ≤ 8) (hdg : decode cc pc = .ok (.invokestatic index, 3)) {c2 s2 : Nat} (hcs : cells + rm.cells ≤ c2 ∧ c2 ≤ R.cells ∧ slots + rm.slots ≤ s2 ∧ s2 ≤ R.slots)
    (kk : ∀ (r : Nat) (h' : PH) (H' : Heap) (locs' : List Loc), Hx G s h' H' locs' → F r h' = some Rr → W p l e R s m args below meth c H' locs' c2 s2 Q (F0 m (pc + 3) ls (.ref r :: rest))) : W p l e R s m args below meth c H locs cells slots Q (F0 m pc ls st) := by
  obtain ⟨r, h2, ho, hF⟩ := bd_some hf
  exact p_cS X hH (hM r h2 ho) hm hk hR hst hls hW hdg hcs (fun H' l' q => kk r h2 H' l' q hF)
theorem p_cVV (X : Cx G p s m args meth c cc nL own nm ret) (hH : Hx G s h H locs) {ci N : Nat} {T : u_T} (hci : vwCl[ci]? = some (y.cls, T, N)) {o : Option (Unit × PH)} {F : Unit → PH → Option β} (hf : rd (isC ci h b) (fun _ => bd o F) = some Rr) (hM : ∀ r h', o = some (r, h') → Ct l y bytes maxL rt rm G (.ref b :: As) h none h') (hm : MV y bytes maxL rt As.length) (hk : LK own index y)
    (hR : rm.frames + 1 ≤ R.frames ∧ 8 + (maxL + 11) + rm.locals ≤ R.locals) (hst : st = As.reverse ++ .ref b :: rest) (hls : ls.size = nL) (hW : (rest.map fun v => v.category).sum ≤ 8) (hdg : decode cc pc = .ok (.invokevirtual index, 3)) {c2 s2 : Nat} (hcs : cells + rm.cells ≤ c2 ∧ c2 ≤ R.cells ∧ slots + rm.slots ≤ s2 ∧ s2 ≤ R.slots)
    (kk : ∀ (r : Unit) (h' : PH) (H' : Heap) (locs' : List Loc), Hx G s h' H' locs' → F r h' = some Rr → W p l e R s m args below meth c H' locs' c2 s2 Q (F0 m (pc + 3) ls rest)) : W p l e R s m args below meth c H locs cells slots Q (F0 m pc ls st) := by
  obtain ⟨u, hu, hf⟩ := rd_some hf
  obtain ⟨r, h2, ho, hF⟩ := bd_some hf
  exact p_cV X hH (hM r h2 ho) hm hk hci hu hR hst hls hW hdg hcs (fun H' l' q => kk r h2 H' l' q hF)
theorem p_cSV (X : Cx G p s m args meth c cc nL own nm ret) (hH : Hx G s h H locs) {o : Option (Unit × PH)} {F : Unit → PH → Option β} (hf : bd o F = some Rr) (hM : ∀ r h', o = some (r, h') → Ct l y bytes maxL rt rm G As h none h') (hm : MS y bytes maxL rt As.length) (hk : LK own index y)
    (hR : rm.frames + 1 ≤ R.frames ∧ 8 + (maxL + 11) + rm.locals ≤ R.locals) (hst : st = As.reverse ++ rest) (hls : ls.size = nL) (hW : (rest.map fun v => v.category).sum ≤ 8) (hdg : decode cc pc = .ok (.invokestatic index, 3)) {c2 s2 : Nat} (hcs : cells + rm.cells ≤ c2 ∧ c2 ≤ R.cells ∧ slots + rm.slots ≤ s2 ∧ s2 ≤ R.slots)
    (kk : ∀ (r : Unit) (h' : PH) (H' : Heap) (locs' : List Loc), Hx G s h' H' locs' → F r h' = some Rr → W p l e R s m args below meth c H' locs' c2 s2 Q (F0 m (pc + 3) ls rest)) : W p l e R s m args below meth c H locs cells slots Q (F0 m pc ls st) := by
  obtain ⟨r, h2, ho, hF⟩ := bd_some hf
  exact p_cS X hH (hM r h2 ho) hm hk hR hst hls hW hdg hcs (fun H' l' q => kk r h2 H' l' q hF)
theorem p_cIV (X : Cx G p s m args meth c cc nL own nm ret) (hH : Hx G s h H locs) {o : Option (Unit × PH)} {F : Unit → PH → Option β} (hf : bd o F = some Rr) (hM : ∀ r h', o = some (r, h') → Ct l y bytes maxL none rm G (.ref b :: As) h none h') (hm : MI y bytes maxL As.length) (hk : LK own index y)
    (hR : rm.frames + 1 ≤ R.frames ∧ 8 + (maxL + 11) + rm.locals ≤ R.locals) (hst : st = As.reverse ++ .ref b :: rest) (hls : ls.size = nL) (hW : (rest.map fun v => v.category).sum ≤ 8) (hdg : decode cc pc = .ok (.invokespecial index, 3)) {c2 s2 : Nat} (hcs : cells + rm.cells ≤ c2 ∧ c2 ≤ R.cells ∧ slots + rm.slots ≤ s2 ∧ s2 ≤ R.slots)
    (kk : ∀ (r : Unit) (h' : PH) (H' : Heap) (locs' : List Loc), Hx G s h' H' locs' → F r h' = some Rr → W p l e R s m args below meth c H' locs' c2 s2 Q (F0 m (pc + 3) ls rest)) : W p l e R s m args below meth c H locs cells slots Q (F0 m pc ls st) := by
  obtain ⟨r, h2, ho, hF⟩ := bd_some hf
  exact p_cI X hH (hM r h2 ho) hm hk hR hst hls hW hdg hcs (fun H' l' q => kk r h2 H' l' q hF)
theorem p_putZ (X : Cx G p s m args meth c cc nL own nm ret) (hH : Hx G s h H locs) {index ci k : Nat} (hF : FP own nm index ci k .boolean) {q : Nat} {x : Int32} {F : PH → Option β} (hf : z1 x (rd (sF ci h q k (.int x)) F) = some Rr) (hdg : decode cc pc = .ok (.putfield index, 3))
    (kk : ∀ (h' : PH) (H' : Heap) (locs' : List Loc), Hx G s h' H' locs' → F h' = some Rr → W p l e R s m args below meth c H' locs' cells slots Q (F0 m (pc + 3) ls rest)) : W p l e R s m args below meth c H locs cells slots Q (F0 m pc ls (.int x :: .ref q :: rest)) := by
  obtain ⟨h01, hf⟩ := z1_some hf
  rcases h01 with rfl | rfl <;> exact p_put X hH hF rfl rfl hf hdg kk
theorem p_oinit (X : Cx G p s m args meth c cc nL own nm ret) (hk : Cond.methodLink own index objectInit ∈ W0) (hin : Cond.instanceMethod objectInit ∈ W0) (hco : Cond.code objectInit ⟨#[0xb1]⟩ 1 none ∈ W0) (hls : ls.size = nL) (hdg : decode cc pc = .ok (.invokespecial index, 3)) (hf : 1 ≤ R.frames) (hl : (rest.map fun v => v.category).sum + 12 ≤ R.locals)
    (kk : W p l e R s m args below meth c H locs cells slots Q (F0 m (pc + 3) ls rest)) : W p l e R s m args below meth c H locs cells slots Q (F0 m pc ls (.ref b :: rest)) := by
  obtain ⟨hx, hb, hml, hown, hts, hE, -⟩ := id X
  exact W.objInit hx hb hown (hts _ hk) (hts _ hin) (hts _ hco) rfl (by rw [hml]; exact hls) rfl hdg hf (by show 2 * 0 + _ + _ ≤ _; omega) kk
/-! ends -/
theorem p_iret (X : Cx G p s m args meth c cc nL own nm (some .int)) (hH : Hx G s h H locs) {r x : Int32} {mc ms : Nat} (hf : some (x, h) = some (r, h')) (hc : cells ≤ mc) (hs : slots ≤ ms) (hdg : decode cc pc = .ok (.ireturn, 1)) : W p l e R s m args below meth c H locs cells slots (Fq G (some (.int r)) h' below args s mc ms) (F0 m pc ls [.int x]) := by
  cases hf
  obtain ⟨hx, hb, -, -, -, -, hlocks, -, hr, -⟩ := X
  refine W.widen hc hs ?_
  exact W.iret hx hb hr (fun t ht _ => ⟨rfl, by rw [ht]; exact hH.1⟩) hH.2.2 hdg hlocks
theorem p_zret (X : Cx G p s m args meth c cc nL own nm (some .boolean)) (hH : Hx G s h H locs) {r x : Int32} {mc ms : Nat} (hf : z1 x (some (x, h)) = some (r, h')) (hc : cells ≤ mc) (hs : slots ≤ ms) (hdg : decode cc pc = .ok (.ireturn, 1)) : W p l e R s m args below meth c H locs cells slots (Fq G (some (.int r)) h' below args s mc ms) (F0 m pc ls [.int x]) := by
  obtain ⟨h01, hf⟩ := z1_some hf
  cases hf
  obtain ⟨hx, hb, -, -, -, -, hlocks, -, hr, -⟩ := X
  refine W.widen hc hs ?_
  exact W.zret hx hb hr (by rcases h01 with rfl | rfl <;> rfl) (fun t ht _ => ⟨rfl, by rw [ht]; exact hH.1⟩) hH.2.2 hdg hlocks
theorem p_lret (X : Cx G p s m args meth c cc nL own nm (some .long)) (hH : Hx G s h H locs) {r x : Int64} {mc ms : Nat} (hf : some (x, h) = some (r, h')) (hc : cells ≤ mc) (hs : slots ≤ ms) (hdg : decode cc pc = .ok (.lreturn, 1)) : W p l e R s m args below meth c H locs cells slots (Fq G (some (.long r)) h' below args s mc ms) (F0 m pc ls [.long x]) := by
  cases hf
  obtain ⟨hx, hb, -, -, -, -, hlocks, -, hr, -⟩ := X
  refine W.widen hc hs ?_
  exact W.lret hx hb hr (fun t ht _ => ⟨rfl, by rw [ht]; exact hH.1⟩) hH.2.2 hdg hlocks
theorem p_dret (X : Cx G p s m args meth c cc nL own nm (some .double)) (hH : Hx G s h H locs) {r x : UInt64} {mc ms : Nat} (hf : some (x, h) = some (r, h')) (hc : cells ≤ mc) (hs : slots ≤ ms) (hdg : decode cc pc = .ok (.dreturn, 1)) : W p l e R s m args below meth c H locs cells slots (Fq G (some (.double r)) h' below args s mc ms) (F0 m pc ls [.double x]) := by
  cases hf
  obtain ⟨hx, hb, -, -, -, -, hlocks, -, hr, -⟩ := X
  refine W.widen hc hs ?_
  exact W.dret hx hb hr (fun t ht _ => ⟨rfl, by rw [ht]; exact hH.1⟩) hH.2.2 hdg hlocks
theorem p_aret {rtt : FieldType} (X : Cx G p s m args meth c cc nL own nm (some rtt)) (hrt : (∃ n, rtt = .object n) ∨ ∃ t, rtt = .array t) (hH : Hx G s h H locs) {r x : Nat} {mc ms : Nat} (hf : some (x, h) = some (r, h')) (hc : cells ≤ mc) (hs : slots ≤ ms) (hdg : decode cc pc = .ok (.areturn, 1)) : W p l e R s m args below meth c H locs cells slots (Fq G (some (.ref r)) h' below args s mc ms) (F0 m pc ls [.ref x]) := by
  cases hf
  obtain ⟨hx, hb, -, -, -, -, hlocks, -, hr, -⟩ := X
  refine W.widen hc hs ?_
  exact W.aret hx hb hr hrt (Or.inr ⟨_, rfl⟩) (fun t ht _ => ⟨rfl, by rw [ht]; exact hH.1⟩) hH.2.2 hdg hlocks
theorem p_vret (X : Cx G p s m args meth c cc nL own nm none) (hH : Hx G s h H locs) {r x : Unit} {mc ms : Nat} (hf : some (x, h) = some (r, h')) (hc : cells ≤ mc) (hs : slots ≤ ms) (hdg : decode cc pc = .ok (.return_, 1)) : W p l e R s m args below meth c H locs cells slots (Fq G none h' below args s mc ms) (F0 m pc ls []) := by
  cases hf
  obtain ⟨hx, hb, -, -, -, -, hlocks, -, hr, -⟩ := X
  refine W.widen hc hs ?_
  exact W.vret hx hb hr (fun t ht _ => ⟨rfl, by rw [ht]; exact hH.1⟩) hH.2.2 hdg hlocks
end PRC
end
section
/-! ===== rows over pure heaps: branches, guards, Math, copies ===== -/
section PRB
variable {G : GE} {p : Program} {l : Launch} {e : Env} {R : Room} {s : State} {m : MethodId} {args : Array Value} {below : List Frame} {meth : Method} {c : Code} {H : Heap} {locs : List Loc} {cells slots : Nat} {Q : State → Prop}
variable {cc : ByteArray} {nL : Nat} {own nm : String} {ret : Option FieldType} {pc : Nat} {ls : Array Slot} {rest : List Value} {h : PH} {β : Type} {Rr : β}
theorem p_if_eq (X : Cx G p s m args meth c cc nL own nm ret) {x : Int32} {off : Int} {tgt : Nat} {A B : Option β} (hf : (if x = 0 then A else B) = some Rr) (hdg : decode cc pc = .ok (.ifCond .eq off, 3)) (ht : (pc : Int) + off = (tgt : Int))
    (kt : x = 0 → A = some Rr → W p l e R s m args below meth c H locs cells slots Q (F0 m tgt ls rest)) (kf : ¬ x = 0 → B = some Rr → W p l e R s m args below meth c H locs cells slots Q (F0 m (pc + 3) ls rest)) : W p l e R s m args below meth c H locs cells slots Q (F0 m pc ls (.int x :: rest)) :=
  lv_if_eq X.1 X.2.1 hdg ht (fun z => kt z (by rw [if_pos z] at hf; exact hf)) (fun z => kf z (by rw [if_neg z] at hf; exact hf))
theorem p_if_ne (X : Cx G p s m args meth c cc nL own nm ret) {x : Int32} {off : Int} {tgt : Nat} {A B : Option β} (hf : (if x = 0 then A else B) = some Rr) (hdg : decode cc pc = .ok (.ifCond .ne off, 3)) (ht : (pc : Int) + off = (tgt : Int))
    (kt : ¬ x = 0 → B = some Rr → W p l e R s m args below meth c H locs cells slots Q (F0 m tgt ls rest)) (kf : x = 0 → A = some Rr → W p l e R s m args below meth c H locs cells slots Q (F0 m (pc + 3) ls rest)) : W p l e R s m args below meth c H locs cells slots Q (F0 m pc ls (.int x :: rest)) :=
  lv_if_ne X.1 X.2.1 hdg ht (fun z => kt z (by rw [if_neg z] at hf; exact hf)) (fun z => kf z (by rw [if_pos z] at hf; exact hf))
theorem p_if_lt (X : Cx G p s m args meth c cc nL own nm ret) {x : Int32} {off : Int} {tgt : Nat} {A B : Option β} (hf : (if x < 0 then A else B) = some Rr) (hdg : decode cc pc = .ok (.ifCond .lt off, 3)) (ht : (pc : Int) + off = (tgt : Int))
    (kt : x < 0 → A = some Rr → W p l e R s m args below meth c H locs cells slots Q (F0 m tgt ls rest)) (kf : ¬ x < 0 → B = some Rr → W p l e R s m args below meth c H locs cells slots Q (F0 m (pc + 3) ls rest)) : W p l e R s m args below meth c H locs cells slots Q (F0 m pc ls (.int x :: rest)) :=
  lv_if_lt X.1 X.2.1 hdg ht (fun z => kt z (by rw [if_pos z] at hf; exact hf)) (fun z => kf z (by rw [if_neg z] at hf; exact hf))
theorem p_if_ge (X : Cx G p s m args meth c cc nL own nm ret) {x : Int32} {off : Int} {tgt : Nat} {A B : Option β} (hf : (if 0 ≤ x then A else B) = some Rr) (hdg : decode cc pc = .ok (.ifCond .ge off, 3)) (ht : (pc : Int) + off = (tgt : Int))
    (kt : 0 ≤ x → A = some Rr → W p l e R s m args below meth c H locs cells slots Q (F0 m tgt ls rest)) (kf : ¬ 0 ≤ x → B = some Rr → W p l e R s m args below meth c H locs cells slots Q (F0 m (pc + 3) ls rest)) : W p l e R s m args below meth c H locs cells slots Q (F0 m pc ls (.int x :: rest)) :=
  lv_if_ge X.1 X.2.1 hdg ht (fun z => kt z (by rw [if_pos z] at hf; exact hf)) (fun z => kf z (by rw [if_neg z] at hf; exact hf))
theorem p_if_gt (X : Cx G p s m args meth c cc nL own nm ret) {x : Int32} {off : Int} {tgt : Nat} {A B : Option β} (hf : (if 0 < x then A else B) = some Rr) (hdg : decode cc pc = .ok (.ifCond .gt off, 3)) (ht : (pc : Int) + off = (tgt : Int))
    (kt : 0 < x → A = some Rr → W p l e R s m args below meth c H locs cells slots Q (F0 m tgt ls rest)) (kf : ¬ 0 < x → B = some Rr → W p l e R s m args below meth c H locs cells slots Q (F0 m (pc + 3) ls rest)) : W p l e R s m args below meth c H locs cells slots Q (F0 m pc ls (.int x :: rest)) :=
  lv_if_gt X.1 X.2.1 hdg ht (fun z => kt z (by rw [if_pos z] at hf; exact hf)) (fun z => kf z (by rw [if_neg z] at hf; exact hf))
theorem p_if_le (X : Cx G p s m args meth c cc nL own nm ret) {x : Int32} {off : Int} {tgt : Nat} {A B : Option β} (hf : (if x ≤ 0 then A else B) = some Rr) (hdg : decode cc pc = .ok (.ifCond .le off, 3)) (ht : (pc : Int) + off = (tgt : Int))
    (kt : x ≤ 0 → A = some Rr → W p l e R s m args below meth c H locs cells slots Q (F0 m tgt ls rest)) (kf : ¬ x ≤ 0 → B = some Rr → W p l e R s m args below meth c H locs cells slots Q (F0 m (pc + 3) ls rest)) : W p l e R s m args below meth c H locs cells slots Q (F0 m pc ls (.int x :: rest)) :=
  lv_if_le X.1 X.2.1 hdg ht (fun z => kt z (by rw [if_pos z] at hf; exact hf)) (fun z => kf z (by rw [if_neg z] at hf; exact hf))
theorem p_icmp_eq (X : Cx G p s m args meth c cc nL own nm ret) {x y : Int32} {off : Int} {tgt : Nat} {A B : Option β} (hf : (if x = y then A else B) = some Rr) (hdg : decode cc pc = .ok (.if_icmp .eq off, 3)) (ht : (pc : Int) + off = (tgt : Int))
    (kt : x = y → A = some Rr → W p l e R s m args below meth c H locs cells slots Q (F0 m tgt ls rest)) (kf : ¬ x = y → B = some Rr → W p l e R s m args below meth c H locs cells slots Q (F0 m (pc + 3) ls rest)) : W p l e R s m args below meth c H locs cells slots Q (F0 m pc ls (.int y :: .int x :: rest)) :=
  lv_icmp_eq X.1 X.2.1 hdg ht (fun z => kt z (by rw [if_pos z] at hf; exact hf)) (fun z => kf z (by rw [if_neg z] at hf; exact hf))
theorem p_icmp_ne (X : Cx G p s m args meth c cc nL own nm ret) {x y : Int32} {off : Int} {tgt : Nat} {A B : Option β} (hf : (if x = y then A else B) = some Rr) (hdg : decode cc pc = .ok (.if_icmp .ne off, 3)) (ht : (pc : Int) + off = (tgt : Int))
    (kt : ¬ x = y → B = some Rr → W p l e R s m args below meth c H locs cells slots Q (F0 m tgt ls rest)) (kf : x = y → A = some Rr → W p l e R s m args below meth c H locs cells slots Q (F0 m (pc + 3) ls rest)) : W p l e R s m args below meth c H locs cells slots Q (F0 m pc ls (.int y :: .int x :: rest)) :=
  lv_icmp_ne X.1 X.2.1 hdg ht (fun z => kt z (by rw [if_neg z] at hf; exact hf)) (fun z => kf z (by rw [if_pos z] at hf; exact hf))
theorem p_icmp_lt (X : Cx G p s m args meth c cc nL own nm ret) {x y : Int32} {off : Int} {tgt : Nat} {A B : Option β} (hf : (if x < y then A else B) = some Rr) (hdg : decode cc pc = .ok (.if_icmp .lt off, 3)) (ht : (pc : Int) + off = (tgt : Int))
    (kt : x < y → A = some Rr → W p l e R s m args below meth c H locs cells slots Q (F0 m tgt ls rest)) (kf : ¬ x < y → B = some Rr → W p l e R s m args below meth c H locs cells slots Q (F0 m (pc + 3) ls rest)) : W p l e R s m args below meth c H locs cells slots Q (F0 m pc ls (.int y :: .int x :: rest)) :=
  lv_icmp_lt X.1 X.2.1 hdg ht (fun z => kt z (by rw [if_pos z] at hf; exact hf)) (fun z => kf z (by rw [if_neg z] at hf; exact hf))
theorem p_icmp_ge (X : Cx G p s m args meth c cc nL own nm ret) {x y : Int32} {off : Int} {tgt : Nat} {A B : Option β} (hf : (if y ≤ x then A else B) = some Rr) (hdg : decode cc pc = .ok (.if_icmp .ge off, 3)) (ht : (pc : Int) + off = (tgt : Int))
    (kt : y ≤ x → A = some Rr → W p l e R s m args below meth c H locs cells slots Q (F0 m tgt ls rest)) (kf : ¬ y ≤ x → B = some Rr → W p l e R s m args below meth c H locs cells slots Q (F0 m (pc + 3) ls rest)) : W p l e R s m args below meth c H locs cells slots Q (F0 m pc ls (.int y :: .int x :: rest)) :=
  lv_icmp_ge X.1 X.2.1 hdg ht (fun z => kt z (by rw [if_pos z] at hf; exact hf)) (fun z => kf z (by rw [if_neg z] at hf; exact hf))
theorem p_icmp_gt (X : Cx G p s m args meth c cc nL own nm ret) {x y : Int32} {off : Int} {tgt : Nat} {A B : Option β} (hf : (if y < x then A else B) = some Rr) (hdg : decode cc pc = .ok (.if_icmp .gt off, 3)) (ht : (pc : Int) + off = (tgt : Int))
    (kt : y < x → A = some Rr → W p l e R s m args below meth c H locs cells slots Q (F0 m tgt ls rest)) (kf : ¬ y < x → B = some Rr → W p l e R s m args below meth c H locs cells slots Q (F0 m (pc + 3) ls rest)) : W p l e R s m args below meth c H locs cells slots Q (F0 m pc ls (.int y :: .int x :: rest)) :=
  lv_icmp_gt X.1 X.2.1 hdg ht (fun z => kt z (by rw [if_pos z] at hf; exact hf)) (fun z => kf z (by rw [if_neg z] at hf; exact hf))
theorem p_icmp_le (X : Cx G p s m args meth c cc nL own nm ret) {x y : Int32} {off : Int} {tgt : Nat} {A B : Option β} (hf : (if x ≤ y then A else B) = some Rr) (hdg : decode cc pc = .ok (.if_icmp .le off, 3)) (ht : (pc : Int) + off = (tgt : Int))
    (kt : x ≤ y → A = some Rr → W p l e R s m args below meth c H locs cells slots Q (F0 m tgt ls rest)) (kf : ¬ x ≤ y → B = some Rr → W p l e R s m args below meth c H locs cells slots Q (F0 m (pc + 3) ls rest)) : W p l e R s m args below meth c H locs cells slots Q (F0 m pc ls (.int y :: .int x :: rest)) :=
  lv_icmp_le X.1 X.2.1 hdg ht (fun z => kt z (by rw [if_pos z] at hf; exact hf)) (fun z => kf z (by rw [if_neg z] at hf; exact hf))
theorem p_acmp_eq (X : Cx G p s m args meth c cc nL own nm ret) {x y : Nat} {off : Int} {tgt : Nat} {A B : Option β} (hf : (if x = y then A else B) = some Rr) (hdg : decode cc pc = .ok (.if_acmp .eq off, 3)) (ht : (pc : Int) + off = (tgt : Int))
    (kt : x = y → A = some Rr → W p l e R s m args below meth c H locs cells slots Q (F0 m tgt ls rest)) (kf : ¬ x = y → B = some Rr → W p l e R s m args below meth c H locs cells slots Q (F0 m (pc + 3) ls rest)) : W p l e R s m args below meth c H locs cells slots Q (F0 m pc ls (.ref y :: .ref x :: rest)) :=
  lv_acmp_eq (rx := some x) (ry := some y) X.1 X.2.1 hdg ht (fun z => kt (Option.some.inj z) (by rw [if_pos (Option.some.inj z)] at hf; exact hf)) (fun z => kf (fun q => z (congrArg some q)) (by rw [if_neg (fun q => z (congrArg some q))] at hf; exact hf))
theorem p_acmp_ne (X : Cx G p s m args meth c cc nL own nm ret) {x y : Nat} {off : Int} {tgt : Nat} {A B : Option β} (hf : (if x = y then A else B) = some Rr) (hdg : decode cc pc = .ok (.if_acmp .ne off, 3)) (ht : (pc : Int) + off = (tgt : Int))
    (kt : ¬ x = y → B = some Rr → W p l e R s m args below meth c H locs cells slots Q (F0 m tgt ls rest)) (kf : x = y → A = some Rr → W p l e R s m args below meth c H locs cells slots Q (F0 m (pc + 3) ls rest)) : W p l e R s m args below meth c H locs cells slots Q (F0 m pc ls (.ref y :: .ref x :: rest)) :=
  lv_acmp_ne (rx := some x) (ry := some y) X.1 X.2.1 hdg ht (fun z => kt (fun q => z (congrArg some q)) (by rw [if_neg (fun q => z (congrArg some q))] at hf; exact hf)) (fun z => kf (Option.some.inj z) (by rw [if_pos (Option.some.inj z)] at hf; exact hf))
theorem p_idiv (X : Cx G p s m args meth c cc nL own nm ret) {x y : Int32} {F : Option β} (hf : nz y F = some Rr) (hdg : decode cc pc = .ok (.idiv, 1)) (kk : F = some Rr → W p l e R s m args below meth c H locs cells slots Q (F0 m (pc + 1) ls (.int (x / y) :: rest))) : W p l e R s m args below meth c H locs cells slots Q (F0 m pc ls (.int y :: .int x :: rest)) :=
  lv_idiv X.1 X.2.1 hdg (nz_some hf).1 (kk (nz_some hf).2)
theorem p_irem (X : Cx G p s m args meth c cc nL own nm ret) {x y : Int32} {F : Option β} (hf : nz y F = some Rr) (hdg : decode cc pc = .ok (.irem, 1)) (kk : F = some Rr → W p l e R s m args below meth c H locs cells slots Q (F0 m (pc + 1) ls (.int (rmI x y) :: rest))) : W p l e R s m args below meth c H locs cells slots Q (F0 m pc ls (.int y :: .int x :: rest)) :=
  lv_irem X.1 X.2.1 hdg (nz_some hf).1 (kk (nz_some hf).2)
theorem lv_rem (hx : p.tables.exec = Jvm.exec) (hb : c.code = cc) {x y : Int32} (hdg : decode cc pc = .ok (.irem, 1)) (hne : ¬ y = 0) (kk : W p l e R s m args below meth c H locs cells slots Q (F0 m (pc + 1) ls (.int (rmI x y) :: rest))) : W p l e R s m args below meth c H locs cells slots Q (F0 m pc ls (.int y :: .int x :: rest)) := lv_irem hx hb hdg hne kk
theorem p_ddiv (X : Cx G p s m args meth c cc nL own nm ret) {x y : UInt64} {F : Option β} (hf : ngd (FP.ddiv x y) F = some Rr) (hdg : decode cc pc = .ok (.ddiv, 1)) (kk : F = some Rr → W p l e R s m args below meth c H locs cells slots Q (F0 m (pc + 1) ls (.double (FP.ddiv x y) :: rest))) : W p l e R s m args below meth c H locs cells slots Q (F0 m pc ls (.double y :: .double x :: rest)) := by
  unfold ngd at hf
  split at hf
  · rename_i hn; exact lv_ddiv X.1 X.2.1 hdg hn (kk hf)
  · cases hf
theorem p_max (X : Cx G p s m args meth c cc nL own nm ret) {index : Nat} (hk : Cond.methodLink own index Lib.Math.max.name ∈ W0) (hs : Cond.static Lib.Math.max.name ∈ W0) (hi : Cond.initialized "java/lang/Math" ∈ W0) (hc : Cond.code Lib.Math.max.name Lib.Math.max.code 2 (some .int) ∈ W0) (hls : ls.size = nL) (hfr : 1 ≤ R.frames) (hlo : (rest.map fun v => v.category).sum + 13 ≤ R.locals) (h1 : cells ≤ R.cells) (h2 : slots ≤ R.slots) {x y : Int32} (hdg : decode cc pc = .ok (.invokestatic index, 3))
    (kk : W p l e R s m args below meth c H locs cells slots Q (F0 m (pc + 3) ls (.int (mxI x y) :: rest))) : W p l e R s m args below meth c H locs cells slots Q (F0 m pc ls (.int y :: .int x :: rest)) :=
  va_mmax X.1 X.2.1 (X.2.2.1.trans hls.symm) X.2.2.2.1 (X.2.2.2.2.1 _ hk) (X.2.2.2.2.1 _ hs) (X.2.2.2.2.1 _ hi) (X.2.2.2.2.1 _ hc) hfr hlo h1 h2 hdg kk
theorem p_min (X : Cx G p s m args meth c cc nL own nm ret) {index : Nat} (hk : Cond.methodLink own index Lib.Math.min.name ∈ W0) (hs : Cond.static Lib.Math.min.name ∈ W0) (hi : Cond.initialized "java/lang/Math" ∈ W0) (hc : Cond.code Lib.Math.min.name Lib.Math.min.code 2 (some .int) ∈ W0) (hls : ls.size = nL) (hfr : 1 ≤ R.frames) (hlo : (rest.map fun v => v.category).sum + 13 ≤ R.locals) (h1 : cells ≤ R.cells) (h2 : slots ≤ R.slots) {x y : Int32} (hdg : decode cc pc = .ok (.invokestatic index, 3))
    (kk : W p l e R s m args below meth c H locs cells slots Q (F0 m (pc + 3) ls (.int (mnI x y) :: rest))) : W p l e R s m args below meth c H locs cells slots Q (F0 m pc ls (.int y :: .int x :: rest)) :=
  va_mmin X.1 X.2.1 (X.2.2.1.trans hls.symm) X.2.2.2.1 (X.2.2.2.2.1 _ hk) (X.2.2.2.2.1 _ hs) (X.2.2.2.2.1 _ hi) (X.2.2.2.2.1 _ hc) hfr hlo h1 h2 hdg kk
theorem p_abs (X : Cx G p s m args meth c cc nL own nm ret) {index : Nat} (hk : Cond.methodLink own index Lib.Math.abs.name ∈ W0) (hs : Cond.static Lib.Math.abs.name ∈ W0) (hi : Cond.initialized "java/lang/Math" ∈ W0) (hc : Cond.code Lib.Math.abs.name Lib.Math.abs.code 1 (some .int) ∈ W0) (hls : ls.size = nL) (hfr : 1 ≤ R.frames) (hlo : (rest.map fun v => v.category).sum + 13 ≤ R.locals) (h1 : cells ≤ R.cells) (h2 : slots ≤ R.slots) {x : Int32} (hdg : decode cc pc = .ok (.invokestatic index, 3))
    (kk : W p l e R s m args below meth c H locs cells slots Q (F0 m (pc + 3) ls (.int (abI x) :: rest))) : W p l e R s m args below meth c H locs cells slots Q (F0 m pc ls (.int x :: rest)) :=
  va_mabs X.1 X.2.1 (X.2.2.1.trans hls.symm) X.2.2.2.1 (X.2.2.2.2.1 _ hk) (X.2.2.2.2.1 _ hs) (X.2.2.2.2.1 _ hi) (X.2.2.2.2.1 _ hc) hfr hlo h1 h2 hdg kk
theorem p_tin (X : Cx G p s m args meth c cc nL own nm ret) {dflt lo hi : Int} {offs : Array Int} {len : Nat} {x k : Int32} {off : Int} {tgt : Nat} (hdg : decode cc pc = .ok (.tableswitch dflt lo hi offs, len)) (hk : x = k) (h1 : ¬ k.toInt < lo) (h2 : ¬ hi < k.toInt) (ho : offs[(k.toInt - lo).toNat]? = some off) (ht : (pc : Int) + off = (tgt : Int))
    (kk : W p l e R s m args below meth c H locs cells slots Q (F0 m tgt ls rest)) : W p l e R s m args below meth c H locs cells slots Q (F0 m pc ls (.int x :: rest)) := by
  subst hk
  exact lv_tableIn X.1 X.2.1 hdg h1 h2 ho ht kk
theorem p_tout (X : Cx G p s m args meth c cc nL own nm ret) {dflt : Int} {N : Nat} {offs : Array Int} {len : Nat} {x : Int32} {tgt : Nat} (hdg : decode cc pc = .ok (.tableswitch dflt 0 (N : Int) offs, len)) (hN : N < 2 ^ 31) (hno : ∀ j : Nat, j ≤ N → ¬ x = Int32.ofNat j) (ht : (pc : Int) + dflt = (tgt : Int))
    (kk : W p l e R s m args below meth c H locs cells slots Q (F0 m tgt ls rest)) : W p l e R s m args below meth c H locs cells slots Q (F0 m pc ls (.int x :: rest)) := by
  refine lv_tableOut X.1 X.2.1 hdg ?_ ht kk
  by_cases h0 : x.toInt < 0
  · exact Or.inl h0
  · by_cases h1 : (N : Int) < x.toInt
    · exact Or.inr h1
    · exfalso
      refine hno x.toInt.toNat (by omega) ?_
      apply Int32.toInt_inj.mp
      have := nI_toInt (n := x.toInt.toNat) (by omega)
      unfold nI at this
      rw [this]
      omega
theorem Hd.at {q : Nat} {c0 : PC} (hH : Hd G h H) (hc : h.2 q = some c0) : va_at (gD G) vwCl (q, toE G c0) H := (hH.2.2.2 q c0 hc).1
theorem nnI {z : Int32} (hz : ¬ z < 0) : z.toInt = (z.toNatClampNeg : Int) := by
  have hz0 : (0 : Int) ≤ z.toInt := by
    have := Int32.not_lt.mp hz
    simpa using Int32.le_iff_toInt_le.mp this
  show z.toInt = ((z.toInt.toNat : Nat) : Int)
  omega
theorem cpI_spec {k : Nat} {src dst : Nat} {sp dp n : Int32} {h' : PH} (e : cpI k h src sp dst dp n = some h') : ∃ n0 f n1 g, h.2 src = some (.inl (k, n0, .inl f)) ∧ h.2 dst = some (.inl (k, n1, .inl g)) ∧ ¬ sp < 0 ∧ ¬ dp < 0 ∧ ¬ n < 0 ∧ sp.toNatClampNeg + n.toNatClampNeg ≤ n0 ∧ dp.toNatClampNeg + n.toNatClampNeg ≤ n1 ∧ (k = 2 → ∀ i, i < n.toNatClampNeg → f (sp.toNatClampNeg + i) = 0 ∨ f (sp.toNatClampNeg + i) = 1) ∧ h' = (h.1, va_up h.2 dst (some (.inl (k, n1, .inl (va_cpy f g sp.toNatClampNeg dp.toNatClampNeg n.toNatClampNeg))))) := by
  unfold cpI at e
  split at e
  · rename_i k0 n0 f k1 n1 g h1 h2
    split at e
    · rename_i hc
      obtain ⟨rfl, rfl, c1, c2, c3, c4, c5, c6, -⟩ := hc
      exact ⟨n0, f, n1, g, h1, h2, c1, c2, c3, c4, c5, c6, (Option.some.inj e).symm⟩
    · cases e
  · cases e
theorem p_cpI (X : Cx G p s m args meth c cc nL own nm ret) (hH : Hx G s h H locs) {k : Nat} {ty : FieldType} (hk : (tysL G)[k]? = some (gT G k, ty)) (hprim : refKind ty = false) (hfit0 : ∀ z : Int32, (k = 2 → z = 0 ∨ z = 1) → fits ty (.int z) = true) {index : Nat} (hlk : Cond.methodLink own index arraycopyName ∈ W0) (hna : Cond.native arraycopyName ∈ W0) (hst : Cond.static arraycopyName ∈ W0) (hin : Cond.initialized "java/lang/System" ∈ W0) (hls : ls.size = nL) (hframes : 1 ≤ R.frames) (hlo : (rest.map fun v => v.category).sum + (nativeFrameWords "java/lang/System" "arraycopy" 5 + 11) ≤ R.locals)
    {src dst : Nat} {sp dp n : Int32} {F : PH → Option β} (hf : rd (cpI k h src sp dst dp n) F = some Rr) (hdg : decode cc pc = .ok (.invokestatic index, 3))
    (kk : ∀ (h' : PH) (H' : Heap) (locs' : List Loc), Hx G s h' H' locs' → F h' = some Rr → W p l e R s m args below meth c H' locs' cells slots Q (F0 m (pc + 3) ls rest)) : W p l e R s m args below meth c H locs cells slots Q (F0 m pc ls (.int n :: .int dp :: .ref dst :: .int sp :: .ref src :: rest)) := by
  obtain ⟨h', he, h2⟩ := rd_some hf
  obtain ⟨n0, f, n1, g, q0, q1, c1, c2, c3, c4, c5, c6, rfl⟩ := cpI_spec he
  obtain ⟨hx, hb, hml, hown, hts, hE, -⟩ := id X
  intro T hT X0
  have hc0 : H[src]? = some (vp_cell (gT G k) (n0, .inl f)) := hH.1.at q0
  have hc1 : H[dst]? = some (vp_cell (gT G k) (n1, .inl g)) := hH.1.at q1
  obtain ⟨-, k0, hk0, cm0, hkk0⟩ := (hE.1.2 k _ hk).1 n0 (fun j => .int (f j))
  obtain ⟨-, k1, hk1, cm1, hkk1⟩ := (hE.1.2 k _ hk).1 n1 (fun j => .int (g j))
  obtain ⟨vm', X', step⟩ := X0.arraycopy hx hown (hts _ hlk) (hts _ hna) (hts _ hst) (hts _ hin) (src := src) (dst := dst) (cs := vp_cell (gT G k) (n0, .inl f)) (cd := vp_cell (gT G k) (n1, .inl g)) (srcPos := sp) (destPos := dp) (n := n) (by rw [hT]; exact hc0) (by rw [hT]; exact hc1)
    (fun _ h => by cases h) (fun _ h => by cases h) (fun h => by cases h) (fun h => by cases h) hk0 hk1 hkk0 hkk1 (by simp [hprim]) c1 c2 c3
    (by rw [nnI c1, nnI c3]; show ¬ _ > ((arrV (gT G k) n0 (fun j => .int (f j))).slots.size : Int); rw [arrV_size]; omega)
    (by rw [nnI c2, nnI c3]; show ¬ _ > ((arrV (gT G k) n1 (fun j => .int (g j))).slots.size : Int); rw [arrV_size]; omega)
    (fun vm₁ _ i hi => by
      have e : (vp_cell (gT G k) (n0, .inl f)).slots.getD (sp.toNatClampNeg + i) .null = .int (f (sp.toNatClampNeg + i)) := by
        show (arrV (gT G k) n0 (fun j => .int (f j))).slots.getD _ _ = _
        rw [Array.getD_eq_getD_getElem?, arrV_read _ _ (by omega)]
        rfl
      refine ⟨?_, ?_⟩
      · rw [e]
        exact hfit0 _ (fun hk2 => c6 hk2 i hi)
      · rw [e]
        exact trivial)
    (g := F0 m pc ls (.int n :: .int dp :: .ref dst :: .int sp :: .ref src :: rest)) rfl (by rw [hml]; exact hls) (rest := rest) rfl (by rw [hb]; exact hdg) hframes (by show 2 * 0 + _ + _ ≤ _; omega)
  have e1 : copied (vp_cell (gT G k) (n0, .inl f)) (vp_cell (gT G k) (n1, .inl g)) sp dp n = vp_cell (gT G k) (n1, .inl (va_cpy f g sp.toNatClampNeg dp.toNatClampNeg n.toNatClampNeg)) := va_copied (fun z => .int z) (gT G k) (gT G k) f g c4
  rw [e1] at X' step
  have hl : dst < H.size := (Array.getElem?_eq_some_iff.mp hc1).1
  have hheap : ((T.setVm vm').setCell dst (vp_cell (gT G k) (n1, .inl (va_cpy f g sp.toNatClampNeg dp.toNatClampNeg n.toNatClampNeg)))).heap = H.setIfInBounds dst (vp_cell (gT G k) (n1, .inl (va_cpy f g sp.toNatClampNeg dp.toNatClampNeg n.toNatClampNeg))) := by rw [← hT]; rfl
  have oq : ∀ q : Nat, q ≠ dst → (H.setIfInBounds dst (vp_cell (gT G k) (n1, .inl (va_cpy f g sp.toNatClampNeg dp.toNatClampNeg n.toNatClampNeg))))[q]? = H[q]? := fun q hq => by simp [Array.getElem?_setIfInBounds, Ne.symm hq]
  obtain ⟨t, a1, b1⟩ := kk _ _ _ ⟨hH.1.set q1 (c2 := .inl (k, n1, .inl (va_cpy f g sp.toNatClampNeg dp.toNatClampNeg n.toNatClampNeg))) (fun j y hj => by
      have hz : j < 1 := (List.getElem?_eq_some_iff.mp hj).1
      rw [show j = 0 by omega] at hj
      cases hj
      show (H.setIfInBounds dst _)[dst]? = some _
      simp [Array.getElem?_setIfInBounds, hl]) (by simp) oq, by simp; exact hH.2.1, fun q hq => by
      rcases List.mem_append.mp hq with h | h
      · exact hH.2.2 q h
      · obtain ⟨z, -, hz⟩ := List.mem_map.mp h
        rw [← hz]
        exact (hH.1.2.2.2 dst _ q1).2⟩ h2 _ hheap X'
  exact ⟨t, step t a1, b1⟩
theorem p_copy0 (X : Cx G p s m args meth c cc nL own nm ret) (hH : Hx G s h H locs) {index : Nat} (hlk : Cond.methodLink own index arraycopyName ∈ W0) (hna : Cond.native arraycopyName ∈ W0) (hst : Cond.static arraycopyName ∈ W0) (hin : Cond.initialized "java/lang/System" ∈ W0) (hls : ls.size = nL) (hframes : 1 ≤ R.frames) (hlo : (rest.map fun v => v.category).sum + (nativeFrameWords "java/lang/System" "arraycopy" 5 + 11) ≤ R.locals)
    {src dst : Nat} {sp dp n : Int32} {F : PH → Option β} (hf : rd (cpI 0 h src sp dst dp n) F = some Rr) (hdg : decode cc pc = .ok (.invokestatic index, 3))
    (kk : ∀ (h' : PH) (H' : Heap) (locs' : List Loc), Hx G s h' H' locs' → F h' = some Rr → W p l e R s m args below meth c H' locs' cells slots Q (F0 m (pc + 3) ls rest)) : W p l e R s m args below meth c H locs cells slots Q (F0 m pc ls (.int n :: .int dp :: .ref dst :: .int sp :: .ref src :: rest)) :=
  p_cpI X hH (k := 0) (ty := .int) rfl rfl (fun _ _ => rfl) hlk hna hst hin hls hframes hlo hf hdg kk
theorem p_copy2 (X : Cx G p s m args meth c cc nL own nm ret) (hH : Hx G s h H locs) {index : Nat} (hlk : Cond.methodLink own index arraycopyName ∈ W0) (hna : Cond.native arraycopyName ∈ W0) (hst : Cond.static arraycopyName ∈ W0) (hin : Cond.initialized "java/lang/System" ∈ W0) (hls : ls.size = nL) (hframes : 1 ≤ R.frames) (hlo : (rest.map fun v => v.category).sum + (nativeFrameWords "java/lang/System" "arraycopy" 5 + 11) ≤ R.locals)
    {src dst : Nat} {sp dp n : Int32} {F : PH → Option β} (hf : rd (cpI 2 h src sp dst dp n) F = some Rr) (hdg : decode cc pc = .ok (.invokestatic index, 3))
    (kk : ∀ (h' : PH) (H' : Heap) (locs' : List Loc), Hx G s h' H' locs' → F h' = some Rr → W p l e R s m args below meth c H' locs' cells slots Q (F0 m (pc + 3) ls rest)) : W p l e R s m args below meth c H locs cells slots Q (F0 m pc ls (.int n :: .int dp :: .ref dst :: .int sp :: .ref src :: rest)) :=
  p_cpI X hH (k := 2) (ty := .boolean) rfl rfl (fun z hz => by rcases hz rfl with rfl | rfl <;> rfl) hlk hna hst hin hls hframes hlo hf hdg kk
theorem p_ldcM (X : Cx G p s m args meth c cc nL own nm ret) {index : Nat} (hlk : Cond.classLink own index "[Ljava/lang/Object;" ∈ W0) (hdg : decode cc pc = .ok (.ldc index, 2))
    (kk : W p l e R s m args below meth c H locs cells slots Q (F0 m (pc + 2) ls (.ref (gMI G) :: rest))) : W p l e R s m args below meth c H locs cells slots Q (F0 m pc ls rest) := by
  obtain ⟨hx, hb, hml, hown, hts, hE, -⟩ := id X
  exact va_ldcM hx hb hown (hts _ hlk) hE.2.2.2.2.2.1.1 hdg kk
theorem p_getC (X : Cx G p s m args meth c cc nL own nm ret) (hH : Hx G s h H locs) {index : Nat} (hlk : Cond.methodLink own index ⟨"java/lang/Object", "getClass", "()Ljava/lang/Class;"⟩ ∈ W0) (hse : Cond.selects "[Ljava/lang/Object;" ⟨"java/lang/Object", "getClass", "()Ljava/lang/Class;"⟩ ⟨"java/lang/Object", "getClass", "()Ljava/lang/Class;"⟩ ∈ W0) (hin : Cond.instanceMethod ⟨"java/lang/Object", "getClass", "()Ljava/lang/Class;"⟩ ∈ W0) (hna : Cond.native ⟨"java/lang/Object", "getClass", "()Ljava/lang/Class;"⟩ ∈ W0) (hde : (⟨"java/lang/Object", "getClass", "()Ljava/lang/Class;"⟩ : MethodName) ∈ owD)
    (hls : ls.size = nL) (hframes : 1 ≤ R.frames) (hlo : (rest.map fun v => v.category).sum + 14 ≤ R.locals) {q : Nat} {F : Unit → Option β} (hf : rd (isA G h q) F = some Rr) (hdg : decode cc pc = .ok (.invokevirtual index, 3))
    (kk : ∀ u, F u = some Rr → W p l e R s m args below meth c H locs cells slots Q (F0 m (pc + 3) ls (.ref (gMI G) :: rest))) : W p l e R s m args below meth c H locs cells slots Q (F0 m pc ls (.ref q :: rest)) := by
  obtain ⟨u, h1, h2⟩ := rd_some hf
  have hS := Hx.S X hH
  obtain ⟨hx, hb, hml, hown, hts, hE, -⟩ := id X
  have hr : ∃ cell : Cell, H[q]? = some cell ∧ cell.vm.isStatics = false ∧ s.vm.findClass "[Ljava/lang/Object;" = some cell.cls := by
    unfold isA at h1
    split at h1
    · rename_i hq
      subst hq
      obtain ⟨cell, g1, g2, g3, g4⟩ := (hE.2.2.2.2.2.1.2.2).kept (hS0 X)
      exact ⟨cell, by rw [hS.2.1 _ (Array.getElem?_eq_some_iff.mp g1).1 g4]; exact g1, g2, g3⟩
    · split at h1
      · rename_i k a hc
        split at h1
        · rename_i hk
          subst hk
          have hcell := hH.1.at hc
          obtain ⟨f, hv⟩ := vp_arr (gT G 1) a
          have hcell : H[q]? = some (vp_cell (gT G 1) a) := hcell
          rw [hv] at hcell
          obtain ⟨_, _, _, _, _, h5⟩ := (hE.1.2 1 (gT G 1, .object "java/lang/Object") rfl).2
          exact ⟨_, hcell, rfl, h5⟩
        · cases h1
      · cases h1
  have hd : va_Nw (.declares ⟨"java/lang/Object", "getClass", "()Ljava/lang/Class;"⟩) s := hE.2.2.2.2.1 _ (List.mem_append_right _ (List.mem_map.mpr ⟨_, hde, rfl⟩))
  exact va_getC hx hb (hml.trans hls.symm) hown (hts _ hlk) (va_Nw.use rfl hd) (hts _ hse) (hts _ hin) (hts _ hna) hE.2.2.2.2.2.1.1 hr hframes hlo hdg (kk u h2)

end PRB
end
section
/-! ===== rows over pure heaps: a copy of references; throws ===== -/
section PRR
variable {G : GE} {p : Program} {l : Launch} {e : Env} {R : Room} {s : State} {m : MethodId} {args : Array Value} {below : List Frame} {meth : Method} {c : Code} {H : Heap} {locs : List Loc} {cells slots : Nat} {Q : State → Prop}
variable {cc : ByteArray} {nL : Nat} {own nm : String} {ret : Option FieldType} {pc : Nat} {ls : Array Slot} {rest : List Value} {h h' : PH} {β : Type} {Rr : β}
/-- any class of ours is an Object -/
def Ob : Prop := ∀ ci, ci < 10 → ∃ C T N, vwCl[ci]? = some (C, T, N) ∧ (C, "java/lang/Object") ∈ owC
theorem vw_ob : Ob := by
  intro ci hci
  rcases (show ci = 0 ∨ ci = 1 ∨ ci = 2 ∨ ci = 3 ∨ ci = 4 ∨ ci = 5 ∨ ci = 6 ∨ ci = 7 ∨ ci = 8 ∨ ci = 9 by omega) with rfl | rfl | rfl | rfl | rfl | rfl | rfl | rfl | rfl | rfl
  · exact ⟨_, _, _, rfl, by decide⟩
  · exact ⟨_, _, _, rfl, by decide⟩
  · exact ⟨_, _, _, rfl, by decide⟩
  · exact ⟨_, _, _, rfl, by decide⟩
  · exact ⟨_, _, _, rfl, by decide⟩
  · exact ⟨_, _, _, rfl, by decide⟩
  · exact ⟨_, _, _, rfl, by decide⟩
  · exact ⟨_, _, _, rfl, by decide⟩
  · exact ⟨_, _, _, rfl, by decide⟩
  · exact ⟨_, _, _, rfl, by decide⟩
theorem any_of {s : State} (hE : EvG G s) (hH : Hd G h H) {v ci : Nat} {fs : List Value} (hvq : h.2 v = some (.inr (ci, fs))) (hci : ci < 10) : va_Any "java/lang/Object" s H v := by
  obtain ⟨C, T, N, hc, hcast⟩ := vw_ob ci hci
  have hcs : va_Nw (.castable C "java/lang/Object") s := hE.2.2.2.2.1 _ (List.mem_append_left _ (List.mem_map.mpr ⟨_, hcast, rfl⟩))
  exact va_rAny (E := "java/lang/Object") hE.1 (hH.P1 hvq) (q0 := 0) (ci := ci) (fs := fs) rfl hc (fun comp c0 e1 e2 => by
    obtain ⟨c9, t9, f1, f2, f3⟩ := Cond.castable_spec (va_Nw.use (A := #[]) rfl hcs)
    rw [f1] at e2; cases e2
    rw [f2] at e1; cases e1
    exact f3)
theorem cpR_spec {src dst : Nat} {sp dp n : Int32} {h' : PH} (e : cpR h src sp dst dp n = some h') : ∃ n0 f n1 g, h.2 src = some (.inl (1, n0, .inr (.inr (.inr (.inr f))))) ∧ h.2 dst = some (.inl (1, n1, .inr (.inr (.inr (.inr g))))) ∧ ¬ sp < 0 ∧ ¬ dp < 0 ∧ ¬ n < 0 ∧ sp.toNatClampNeg + n.toNatClampNeg ≤ n0 ∧ dp.toNatClampNeg + n.toNatClampNeg ≤ n1 ∧ okR h f sp.toNatClampNeg n.toNatClampNeg ∧ h' = (h.1, va_up h.2 dst (some (.inl (1, n1, .inr (.inr (.inr (.inr (va_cpy f g sp.toNatClampNeg dp.toNatClampNeg n.toNatClampNeg)))))))) := by
  unfold cpR at e
  split at e
  · rename_i k0 n0 f k1 n1 g h1 h2
    split at e
    · rename_i hc
      obtain ⟨rfl, rfl, c1, c2, c3, c4, c5, c6⟩ := hc
      exact ⟨n0, f, n1, g, h1, h2, c1, c2, c3, c4, c5, c6, (Option.some.inj e).symm⟩
    · cases e
  · cases e
theorem p_copy1 (X : Cx G p s m args meth c cc nL own nm ret) (hH : Hx G s h H locs) {index : Nat} (hlk : Cond.methodLink own index arraycopyName ∈ W0) (hna : Cond.native arraycopyName ∈ W0) (hst : Cond.static arraycopyName ∈ W0) (hin : Cond.initialized "java/lang/System" ∈ W0) (hls : ls.size = nL) (hframes : 1 ≤ R.frames) (hlo : (rest.map fun v => v.category).sum + (nativeFrameWords "java/lang/System" "arraycopy" 5 + 11) ≤ R.locals)
    {src dst : Nat} {sp dp n : Int32} {F : PH → Option β} (hf : rd (cpR h src sp dst dp n) F = some Rr) (hdg : decode cc pc = .ok (.invokestatic index, 3))
    (kk : ∀ (h' : PH) (H' : Heap) (locs' : List Loc), Hx G s h' H' locs' → F h' = some Rr → W p l e R s m args below meth c H' locs' cells slots Q (F0 m (pc + 3) ls rest)) : W p l e R s m args below meth c H locs cells slots Q (F0 m pc ls (.int n :: .int dp :: .ref dst :: .int sp :: .ref src :: rest)) := by
  obtain ⟨h', he, h2⟩ := rd_some hf
  obtain ⟨n0, f, n1, g, q0, q1, c1, c2, c3, c4, c5, c6, rfl⟩ := cpR_spec he
  obtain ⟨hx, hb, hml, hown, hts, hE, -⟩ := id X
  have hk : (tysL G)[1]? = some (gT G 1, .object "java/lang/Object") := rfl
  intro T hT X0
  have hc0 : H[src]? = some (vp_cell (gT G 1) (n0, .inr (.inr (.inr (.inr f))))) := hH.1.at q0
  have hc1 : H[dst]? = some (vp_cell (gT G 1) (n1, .inr (.inr (.inr (.inr g))))) := hH.1.at q1
  obtain ⟨-, k0, hk0, cm0, hkk0⟩ := (hE.1.2 1 _ hk).1 n0 (fun j => va_rf (f j))
  obtain ⟨-, k1, hk1, cm1, hkk1⟩ := (hE.1.2 1 _ hk).1 n1 (fun j => va_rf (g j))
  obtain ⟨vm', X', step⟩ := X0.arraycopy hx hown (hts _ hlk) (hts _ hna) (hts _ hst) (hts _ hin) (src := src) (dst := dst) (cs := vp_cell (gT G 1) (n0, .inr (.inr (.inr (.inr f))))) (cd := vp_cell (gT G 1) (n1, .inr (.inr (.inr (.inr g))))) (srcPos := sp) (destPos := dp) (n := n) (by rw [hT]; exact hc0) (by rw [hT]; exact hc1)
    (fun _ h => by cases h) (fun _ h => by cases h) (fun h => by cases h) (fun h => by cases h) hk0 hk1 hkk0 hkk1 rfl c1 c2 c3
    (by rw [nnI c1, nnI c3]; show ¬ _ > ((arrV (gT G 1) n0 (fun j => va_rf (f j))).slots.size : Int); rw [arrV_size]; omega)
    (by rw [nnI c2, nnI c3]; show ¬ _ > ((arrV (gT G 1) n1 (fun j => va_rf (g j))).slots.size : Int); rw [arrV_size]; omega)
    (fun vm₁ hal i hi => by
      have e : (vp_cell (gT G 1) (n0, .inr (.inr (.inr (.inr f))))).slots.getD (sp.toNatClampNeg + i) .null = va_rf (f (sp.toNatClampNeg + i)) := by
        show (arrV (gT G 1) n0 (fun j => va_rf (f j))).slots.getD _ _ = _
        rw [Array.getD_eq_getD_getElem?, arrV_read _ _ (by omega)]
        rfl
      rw [e]
      cases hy : f (sp.toNatClampNeg + i) with
      | none => exact ⟨rfl, trivial⟩
      | some y =>
        obtain ⟨ci, fs, hyq, hci⟩ := c6 i hi y hy
        obtain ⟨cellV, g1, g2, ⟨kC, hkC⟩, hasg⟩ := any_of hE hH.1 hyq hci
        obtain ⟨kA, comp, r1, r2, r3, -⟩ := (hE.1.2 1 _ hk).2
        cases hk1.symm.trans r1
        cases hkk1.symm.trans r2
        obtain ⟨kE, hkE, -⟩ := Vm.findClass_spec r3
        obtain ⟨kC', hkC', -⟩ := hal.2.2 _ _ hkC
        obtain ⟨kE', hkE', -⟩ := hal.2.2 _ _ hkE
        refine ⟨rfl, cellV, (show T.heap[y]? = some cellV by rw [hT]; exact g1), (fun q h => by rw [h] at g2; cases g2), ⟨kC', hkC'⟩, ?_, ?_⟩
        · exact ⟨kE', hkE'⟩
        · show vm₁.assignable _ _ = true
          rw [hal.assignable]
          exact hasg _ r3)
    (g := F0 m pc ls (.int n :: .int dp :: .ref dst :: .int sp :: .ref src :: rest)) rfl (by rw [hml]; exact hls) (rest := rest) rfl (by rw [hb]; exact hdg) hframes (by show 2 * 0 + _ + _ ≤ _; omega)
  have e1 : copied (vp_cell (gT G 1) (n0, .inr (.inr (.inr (.inr f))))) (vp_cell (gT G 1) (n1, .inr (.inr (.inr (.inr g))))) sp dp n = vp_cell (gT G 1) (n1, .inr (.inr (.inr (.inr (va_cpy f g sp.toNatClampNeg dp.toNatClampNeg n.toNatClampNeg))))) := by
    rw [vp_cell_q, vp_cell_q, vp_cell_q]
    exact va_copied (fun z => va_rf z) (gT G 1) (gT G 1) f g c4
  rw [e1] at X' step
  have hl : dst < H.size := (Array.getElem?_eq_some_iff.mp hc1).1
  have hheap : ((T.setVm vm').setCell dst (vp_cell (gT G 1) (n1, .inr (.inr (.inr (.inr (va_cpy f g sp.toNatClampNeg dp.toNatClampNeg n.toNatClampNeg))))))).heap = H.setIfInBounds dst (vp_cell (gT G 1) (n1, .inr (.inr (.inr (.inr (va_cpy f g sp.toNatClampNeg dp.toNatClampNeg n.toNatClampNeg)))))) := by rw [← hT]; rfl
  have oq : ∀ q : Nat, q ≠ dst → (H.setIfInBounds dst (vp_cell (gT G 1) (n1, .inr (.inr (.inr (.inr (va_cpy f g sp.toNatClampNeg dp.toNatClampNeg n.toNatClampNeg)))))))[q]? = H[q]? := fun q hq => by simp [Array.getElem?_setIfInBounds, Ne.symm hq]
  obtain ⟨t, a1, b1⟩ := kk _ _ _ ⟨hH.1.set q1 (c2 := .inl (1, n1, .inr (.inr (.inr (.inr (va_cpy f g sp.toNatClampNeg dp.toNatClampNeg n.toNatClampNeg)))))) (fun j y hj => by
      have hz : j < 1 := (List.getElem?_eq_some_iff.mp hj).1
      rw [show j = 0 by omega] at hj
      cases hj
      show (H.setIfInBounds dst _)[dst]? = some _
      simp [Array.getElem?_setIfInBounds, hl]) (by simp) oq, by simp; exact hH.2.1, fun q hq => by
      rcases List.mem_append.mp hq with h | h
      · exact hH.2.2 q h
      · obtain ⟨z, -, hz⟩ := List.mem_map.mp h
        rw [← hz]
        exact (hH.1.2.2.2 dst _ q1).2⟩ h2 _ hheap X'
  exact ⟨t, step t a1, b1⟩
/-! methods that may throw -/
def xQ (G : GE) (o : Sum Int32 String) (h' : PH) : Array Value → State → Outcome → State → Prop := fun _ _ oc t => ∃ r, o = .inl r ∧ oc = .returned (some (.int r)) ∧ Hd G h' t.heap
def xX (G : GE) (o : Sum Int32 String) (h' : PH) : String → State → State → Prop := fun E _ t => o = .inr E ∧ ∃ sz, Hd G (sz, h'.2) t.heap
def Xt (l : Launch) (y : MethodName) (bytes : ByteArray) (maxL : Nat) (rm : Room) (G : GE) (vs : List Value) (h : PH) (o : Sum Int32 String) (h' : PH) : Prop :=
  vx_Met l y (.code y bytes maxL (some .int) :: W0) rm (va_Pc vs (fun U => Hd G h U.heap ∧ EvG G U)) (xQ G o h') (xX G o h') rm.cells rm.slots (gA G)
abbrev Xq (G : GE) (o : Sum Int32 String) (h' : PH) (below : List Frame) (args : Array Value) (s : State) (mc ms : Nat) : State → Prop := vx_MQ below (xQ G o h') (xX G o h') args s mc ms (gA G)
theorem Xt.of {l : Launch} {y : MethodName} {bytes : ByteArray} {maxL : Nat} {rm : Room} {G : GE} {vs : List Value} {h : PH} {o : Sum Int32 String} {h' : PH} (hy : plainName y.cls = true) (hvs : (lg_sl vs).length ≤ maxL)
    (body : ∀ (p : Program) (e : Env) (s : State) (m : MethodId) (args : Array Value) (below : List Frame) (meth : Method) (c : Code) (ls : Array Slot), Cx G p s m args meth c bytes maxL y.cls y.name (some .int) → (∀ x ∈ c.exceptionTable.toList, False) → Hx G s h s.heap [] → lv_has ls maxL (lv_args 0 vs) →
      W p l e rm s m args below meth c s.heap [] 0 0 (Xq G o h' below args s rm.cells rm.slots) (F0 m 0 ls [])) : Xt l y bytes maxL rm G vs h o h' := by
  refine vx_ofW (cc := bytes) (maxL := maxL) (ret := some .int) hy rfl ?_
  intro p e s m args below meth c s₁ B hml hex hv
  obtain ⟨rfl, hH, hE⟩ := hv
  have hts := atoms_spec (ws := .code y bytes maxL (some .int) :: W0) B.pre
  have hl := lv_entry vs (n := maxL) hvs
  rw [lg_entry_eq]
  exact body p e s m _ below meth c _ ⟨B.exec, B.bytes, hml, findClass_of_methodNamed B.named, fun w hw => hts w (List.mem_cons_of_mem _ hw), hE, B.notSynchronized, (name_of_methodNamed B.named B.method).1, B.returns, by rw [hH.1]; exact hH.2.1, hH.2.2.1⟩ hex ⟨hH, Nat.le_refl _, fun z hz => by cases hz⟩ hl
theorem p_xret (X : Cx G p s m args meth c cc nL own nm (some .int)) (hH : Hx G s h H locs) {o : Sum Int32 String} {x : Int32} {mc ms : Nat} (hf : some (Sum.inl x, h) = some (o, h')) (hc : cells ≤ mc) (hs : slots ≤ ms) (hdg : decode cc pc = .ok (.ireturn, 1)) : W p l e R s m args below meth c H locs cells slots (Xq G o h' below args s mc ms) (F0 m pc ls [.int x]) := by
  cases hf
  obtain ⟨hx, hb, -, -, -, -, hlocks, -, hr, -⟩ := X
  refine W.widen hc hs (vx_ret ?_)
  exact W.iret hx hb hr (fun t ht _ => ⟨x, rfl, rfl, by rw [ht]; exact hH.1⟩) hH.2.2 hdg hlocks
def exn : List String := ["java/lang/RuntimeException", "java/lang/Exception"]
theorem grown {H H1 : Heap} (hH : Hd G h H) (h1 : H.size ≤ H1.size) (h2 : ∀ q : Nat, q < H.size → H1[q]? = H[q]?) : Hd G (H1.size, h.2) H1 := by
  obtain ⟨a1, a2, a3, a4⟩ := hH
  refine ⟨rfl, by show gB G ≤ H1.size; omega, fun q hq => ?_, fun q c hc => ?_⟩
  · rw [h2 q (by omega)]; exact a3 q hq
  · obtain ⟨b1, b2⟩ := a4 q c hc
    exact ⟨b1.kept (h2 q b1.lt), b2⟩
theorem xg_iae : ∀ w ∈ (vx_atS "VaneHouse" 57 "java/lang/IllegalArgumentException" exn).filter goodWord, w ∈ W0 := by decide +kernel
theorem xn_iae : ∀ w ∈ (vx_atS "VaneHouse" 57 "java/lang/IllegalArgumentException" exn).filter (fun w => !goodWord w), w ∈ OW := by decide +kernel
theorem xo_iae : ∀ w ∈ Cond.classLink "VaneHouse" 53 "java/lang/IllegalArgumentException" :: Cond.initialized "java/lang/IllegalArgumentException" :: vx_atS "VaneHouse" 57 "java/lang/IllegalArgumentException" exn, vx_ot w = true := by decide +kernel
theorem xk_iae : Cond.classLink "VaneHouse" 53 "java/lang/IllegalArgumentException" ∈ W0 := by decide +kernel
theorem xi_iae : Cond.initialized "java/lang/IllegalArgumentException" ∈ W0 := by decide +kernel
theorem p_thr_iae (X : Cx G p s m args meth c cc nL "VaneHouse" nm ret) (hH : Hx G s h H locs) {is : Nat} {tx : String} (hstr : (is, tx) ∈ strs) {o : Sum Int32 String} {mc ms : Nat} (hf : some (Sum.inr "java/lang/IllegalArgumentException", h) = some (o, h')) (hfl : l.stackTraces = false) (hex : ∀ x ∈ c.exceptionTable.toList, False) (hls : ls.size = nL)
    (hRf : 5 < R.frames) (hRl : (rest.map fun v => v.category).sum + 82 ≤ R.locals) (hRc : cells + 1 ≤ R.cells) (hRs : slots + 6 ≤ R.slots) (hc : cells + 1 ≤ mc) (hs : slots + 6 ≤ ms) (d0 : decode cc pc = .ok (.new 53, 3)) (d3 : decode cc (pc + 3) = .ok (.dup, 1)) (d4 : decode cc (pc + 4) = .ok (.ldc is, 2)) (d6 : decode cc (pc + 6) = .ok (.invokespecial 57, 3)) (d9 : decode cc (pc + 9) = .ok (.athrow, 1)) : W p l e R s m args below meth c H locs cells slots (Xq G o h' below args s mc ms) (F0 m pc ls rest) := by
  cases hf
  have hS := Hx.S X hH
  obtain ⟨hx, hb, hml, hown, hts, hE, hlocks, -⟩ := id X
  obtain ⟨sa, hsa⟩ := hE.2.2.2.2.2.2.2 _ hstr
  have hU := hE.2.2.2.2.2.2.1.1.kept (hS0 X)
  have hN := hE.2.2.2.2.2.2.1.2.kept (hS0 X)
  refine vx_throwS hx hb hfl (names := exn) hown (by decide +kernel) (by decide +kernel) (hts _ xk_iae) (hts _ xi_iae) hsa
    (vx_hat (B := OW) (fun w hw => hts w (xg_iae w hw)) xn_iae (fun w hw => ?_)) xo_iae hU hN hS (hls.trans hml.symm) d0 d3 d4 d6 d9 (fun x hx => (hex x hx).elim) hRf hRl hRc hRs hlocks (fun t ht h1 h2 => ⟨rfl, t.heap.size, grown hH.1 h1 h2⟩) hH.2.2 hc hs
  have h9 := hE.2.2.2.2.1 w hw
  rcases List.mem_append.mp hw with hw | hw
  · obtain ⟨z, -, rfl⟩ := List.mem_map.mp hw
    exact va_Nw.use rfl h9
  · obtain ⟨z, -, rfl⟩ := List.mem_map.mp hw
    exact va_Nw.use rfl h9
theorem p_thrW_iae (X : Cx G p s m args meth c cc nL "VaneHouse" nm ret) (hH : Hx G s h H locs) {is : Nat} {tx : String} (hstr : (is, tx) ∈ strs) {o : Sum Int32 String} {mc ms : Nat} (hf : some (Sum.inr "java/lang/IllegalArgumentException", h) = some (o, h')) (hfl : l.stackTraces = false) (hex : ∀ x ∈ c.exceptionTable.toList, False) (hls : ls.size = nL)
    (hRf : 5 < R.frames) (hRl : (rest.map fun v => v.category).sum + 82 ≤ R.locals) (hRc : cells + 1 ≤ R.cells) (hRs : slots + 6 ≤ R.slots) (hc : cells + 1 ≤ mc) (hs : slots + 6 ≤ ms) (d0 : decode cc pc = .ok (.new 53, 3)) (d3 : decode cc (pc + 3) = .ok (.dup, 1)) (d4 : decode cc (pc + 4) = .ok (.ldc_w is, 3)) (d7 : decode cc (pc + 7) = .ok (.invokespecial 57, 3)) (d10 : decode cc (pc + 10) = .ok (.athrow, 1)) : W p l e R s m args below meth c H locs cells slots (Xq G o h' below args s mc ms) (F0 m pc ls rest) := by
  cases hf
  have hS := Hx.S X hH
  obtain ⟨hx, hb, hml, hown, hts, hE, hlocks, -⟩ := id X
  obtain ⟨sa, hsa⟩ := hE.2.2.2.2.2.2.2 _ hstr
  have hU := hE.2.2.2.2.2.2.1.1.kept (hS0 X)
  have hN := hE.2.2.2.2.2.2.1.2.kept (hS0 X)
  refine vx_throwSW hx hb hfl (names := exn) hown (by decide +kernel) (by decide +kernel) (hts _ xk_iae) (hts _ xi_iae) hsa
    (vx_hat (B := OW) (fun w hw => hts w (xg_iae w hw)) xn_iae (fun w hw => ?_)) xo_iae hU hN hS (hls.trans hml.symm) d0 d3 d4 d7 d10 (fun x hx => (hex x hx).elim) hRf hRl hRc hRs hlocks (fun t ht h1 h2 => ⟨rfl, t.heap.size, grown hH.1 h1 h2⟩) hH.2.2 hc hs
  have h9 := hE.2.2.2.2.1 w hw
  rcases List.mem_append.mp hw with hw | hw
  · obtain ⟨z, -, rfl⟩ := List.mem_map.mp hw
    exact va_Nw.use rfl h9
  · obtain ⟨z, -, rfl⟩ := List.mem_map.mp hw
    exact va_Nw.use rfl h9
theorem xg_ise : ∀ w ∈ (vx_atS "VaneHouse" 71 "java/lang/IllegalStateException" exn).filter goodWord, w ∈ W0 := by decide +kernel
theorem xn_ise : ∀ w ∈ (vx_atS "VaneHouse" 71 "java/lang/IllegalStateException" exn).filter (fun w => !goodWord w), w ∈ OW := by decide +kernel
theorem xo_ise : ∀ w ∈ Cond.classLink "VaneHouse" 67 "java/lang/IllegalStateException" :: Cond.initialized "java/lang/IllegalStateException" :: vx_atS "VaneHouse" 71 "java/lang/IllegalStateException" exn, vx_ot w = true := by decide +kernel
theorem xk_ise : Cond.classLink "VaneHouse" 67 "java/lang/IllegalStateException" ∈ W0 := by decide +kernel
theorem xi_ise : Cond.initialized "java/lang/IllegalStateException" ∈ W0 := by decide +kernel
theorem p_thr_ise (X : Cx G p s m args meth c cc nL "VaneHouse" nm ret) (hH : Hx G s h H locs) {is : Nat} {tx : String} (hstr : (is, tx) ∈ strs) {o : Sum Int32 String} {mc ms : Nat} (hf : some (Sum.inr "java/lang/IllegalStateException", h) = some (o, h')) (hfl : l.stackTraces = false) (hex : ∀ x ∈ c.exceptionTable.toList, False) (hls : ls.size = nL)
    (hRf : 5 < R.frames) (hRl : (rest.map fun v => v.category).sum + 82 ≤ R.locals) (hRc : cells + 1 ≤ R.cells) (hRs : slots + 6 ≤ R.slots) (hc : cells + 1 ≤ mc) (hs : slots + 6 ≤ ms) (d0 : decode cc pc = .ok (.new 67, 3)) (d3 : decode cc (pc + 3) = .ok (.dup, 1)) (d4 : decode cc (pc + 4) = .ok (.ldc is, 2)) (d6 : decode cc (pc + 6) = .ok (.invokespecial 71, 3)) (d9 : decode cc (pc + 9) = .ok (.athrow, 1)) : W p l e R s m args below meth c H locs cells slots (Xq G o h' below args s mc ms) (F0 m pc ls rest) := by
  cases hf
  have hS := Hx.S X hH
  obtain ⟨hx, hb, hml, hown, hts, hE, hlocks, -⟩ := id X
  obtain ⟨sa, hsa⟩ := hE.2.2.2.2.2.2.2 _ hstr
  have hU := hE.2.2.2.2.2.2.1.1.kept (hS0 X)
  have hN := hE.2.2.2.2.2.2.1.2.kept (hS0 X)
  refine vx_throwS hx hb hfl (names := exn) hown (by decide +kernel) (by decide +kernel) (hts _ xk_ise) (hts _ xi_ise) hsa
    (vx_hat (B := OW) (fun w hw => hts w (xg_ise w hw)) xn_ise (fun w hw => ?_)) xo_ise hU hN hS (hls.trans hml.symm) d0 d3 d4 d6 d9 (fun x hx => (hex x hx).elim) hRf hRl hRc hRs hlocks (fun t ht h1 h2 => ⟨rfl, t.heap.size, grown hH.1 h1 h2⟩) hH.2.2 hc hs
  have h9 := hE.2.2.2.2.1 w hw
  rcases List.mem_append.mp hw with hw | hw
  · obtain ⟨z, -, rfl⟩ := List.mem_map.mp hw
    exact va_Nw.use rfl h9
  · obtain ⟨z, -, rfl⟩ := List.mem_map.mp hw
    exact va_Nw.use rfl h9
theorem p_thrW_ise (X : Cx G p s m args meth c cc nL "VaneHouse" nm ret) (hH : Hx G s h H locs) {is : Nat} {tx : String} (hstr : (is, tx) ∈ strs) {o : Sum Int32 String} {mc ms : Nat} (hf : some (Sum.inr "java/lang/IllegalStateException", h) = some (o, h')) (hfl : l.stackTraces = false) (hex : ∀ x ∈ c.exceptionTable.toList, False) (hls : ls.size = nL)
    (hRf : 5 < R.frames) (hRl : (rest.map fun v => v.category).sum + 82 ≤ R.locals) (hRc : cells + 1 ≤ R.cells) (hRs : slots + 6 ≤ R.slots) (hc : cells + 1 ≤ mc) (hs : slots + 6 ≤ ms) (d0 : decode cc pc = .ok (.new 67, 3)) (d3 : decode cc (pc + 3) = .ok (.dup, 1)) (d4 : decode cc (pc + 4) = .ok (.ldc_w is, 3)) (d7 : decode cc (pc + 7) = .ok (.invokespecial 71, 3)) (d10 : decode cc (pc + 10) = .ok (.athrow, 1)) : W p l e R s m args below meth c H locs cells slots (Xq G o h' below args s mc ms) (F0 m pc ls rest) := by
  cases hf
  have hS := Hx.S X hH
  obtain ⟨hx, hb, hml, hown, hts, hE, hlocks, -⟩ := id X
  obtain ⟨sa, hsa⟩ := hE.2.2.2.2.2.2.2 _ hstr
  have hU := hE.2.2.2.2.2.2.1.1.kept (hS0 X)
  have hN := hE.2.2.2.2.2.2.1.2.kept (hS0 X)
  refine vx_throwSW hx hb hfl (names := exn) hown (by decide +kernel) (by decide +kernel) (hts _ xk_ise) (hts _ xi_ise) hsa
    (vx_hat (B := OW) (fun w hw => hts w (xg_ise w hw)) xn_ise (fun w hw => ?_)) xo_ise hU hN hS (hls.trans hml.symm) d0 d3 d4 d7 d10 (fun x hx => (hex x hx).elim) hRf hRl hRc hRs hlocks (fun t ht h1 h2 => ⟨rfl, t.heap.size, grown hH.1 h1 h2⟩) hH.2.2 hc hs
  have h9 := hE.2.2.2.2.1 w hw
  rcases List.mem_append.mp hw with hw | hw
  · obtain ⟨z, -, rfl⟩ := List.mem_map.mp hw
    exact va_Nw.use rfl h9
  · obtain ⟨z, -, rfl⟩ := List.mem_map.mp hw
    exact va_Nw.use rfl h9
theorem xg_ioo : ∀ w ∈ (vx_atS "VaneHouse" 78 "java/lang/IndexOutOfBoundsException" exn).filter goodWord, w ∈ W0 := by decide +kernel
theorem xn_ioo : ∀ w ∈ (vx_atS "VaneHouse" 78 "java/lang/IndexOutOfBoundsException" exn).filter (fun w => !goodWord w), w ∈ OW := by decide +kernel
theorem xo_ioo : ∀ w ∈ Cond.classLink "VaneHouse" 74 "java/lang/IndexOutOfBoundsException" :: Cond.initialized "java/lang/IndexOutOfBoundsException" :: vx_atS "VaneHouse" 78 "java/lang/IndexOutOfBoundsException" exn, vx_ot w = true := by decide +kernel
theorem xk_ioo : Cond.classLink "VaneHouse" 74 "java/lang/IndexOutOfBoundsException" ∈ W0 := by decide +kernel
theorem xi_ioo : Cond.initialized "java/lang/IndexOutOfBoundsException" ∈ W0 := by decide +kernel
theorem p_thr_ioo (X : Cx G p s m args meth c cc nL "VaneHouse" nm ret) (hH : Hx G s h H locs) {is : Nat} {tx : String} (hstr : (is, tx) ∈ strs) {o : Sum Int32 String} {mc ms : Nat} (hf : some (Sum.inr "java/lang/IndexOutOfBoundsException", h) = some (o, h')) (hfl : l.stackTraces = false) (hex : ∀ x ∈ c.exceptionTable.toList, False) (hls : ls.size = nL)
    (hRf : 5 < R.frames) (hRl : (rest.map fun v => v.category).sum + 82 ≤ R.locals) (hRc : cells + 1 ≤ R.cells) (hRs : slots + 6 ≤ R.slots) (hc : cells + 1 ≤ mc) (hs : slots + 6 ≤ ms) (d0 : decode cc pc = .ok (.new 74, 3)) (d3 : decode cc (pc + 3) = .ok (.dup, 1)) (d4 : decode cc (pc + 4) = .ok (.ldc is, 2)) (d6 : decode cc (pc + 6) = .ok (.invokespecial 78, 3)) (d9 : decode cc (pc + 9) = .ok (.athrow, 1)) : W p l e R s m args below meth c H locs cells slots (Xq G o h' below args s mc ms) (F0 m pc ls rest) := by
  cases hf
  have hS := Hx.S X hH
  obtain ⟨hx, hb, hml, hown, hts, hE, hlocks, -⟩ := id X
  obtain ⟨sa, hsa⟩ := hE.2.2.2.2.2.2.2 _ hstr
  have hU := hE.2.2.2.2.2.2.1.1.kept (hS0 X)
  have hN := hE.2.2.2.2.2.2.1.2.kept (hS0 X)
  refine vx_throwS hx hb hfl (names := exn) hown (by decide +kernel) (by decide +kernel) (hts _ xk_ioo) (hts _ xi_ioo) hsa
    (vx_hat (B := OW) (fun w hw => hts w (xg_ioo w hw)) xn_ioo (fun w hw => ?_)) xo_ioo hU hN hS (hls.trans hml.symm) d0 d3 d4 d6 d9 (fun x hx => (hex x hx).elim) hRf hRl hRc hRs hlocks (fun t ht h1 h2 => ⟨rfl, t.heap.size, grown hH.1 h1 h2⟩) hH.2.2 hc hs
  have h9 := hE.2.2.2.2.1 w hw
  rcases List.mem_append.mp hw with hw | hw
  · obtain ⟨z, -, rfl⟩ := List.mem_map.mp hw
    exact va_Nw.use rfl h9
  · obtain ⟨z, -, rfl⟩ := List.mem_map.mp hw
    exact va_Nw.use rfl h9
theorem p_thrW_ioo (X : Cx G p s m args meth c cc nL "VaneHouse" nm ret) (hH : Hx G s h H locs) {is : Nat} {tx : String} (hstr : (is, tx) ∈ strs) {o : Sum Int32 String} {mc ms : Nat} (hf : some (Sum.inr "java/lang/IndexOutOfBoundsException", h) = some (o, h')) (hfl : l.stackTraces = false) (hex : ∀ x ∈ c.exceptionTable.toList, False) (hls : ls.size = nL)
    (hRf : 5 < R.frames) (hRl : (rest.map fun v => v.category).sum + 82 ≤ R.locals) (hRc : cells + 1 ≤ R.cells) (hRs : slots + 6 ≤ R.slots) (hc : cells + 1 ≤ mc) (hs : slots + 6 ≤ ms) (d0 : decode cc pc = .ok (.new 74, 3)) (d3 : decode cc (pc + 3) = .ok (.dup, 1)) (d4 : decode cc (pc + 4) = .ok (.ldc_w is, 3)) (d7 : decode cc (pc + 7) = .ok (.invokespecial 78, 3)) (d10 : decode cc (pc + 10) = .ok (.athrow, 1)) : W p l e R s m args below meth c H locs cells slots (Xq G o h' below args s mc ms) (F0 m pc ls rest) := by
  cases hf
  have hS := Hx.S X hH
  obtain ⟨hx, hb, hml, hown, hts, hE, hlocks, -⟩ := id X
  obtain ⟨sa, hsa⟩ := hE.2.2.2.2.2.2.2 _ hstr
  have hU := hE.2.2.2.2.2.2.1.1.kept (hS0 X)
  have hN := hE.2.2.2.2.2.2.1.2.kept (hS0 X)
  refine vx_throwSW hx hb hfl (names := exn) hown (by decide +kernel) (by decide +kernel) (hts _ xk_ioo) (hts _ xi_ioo) hsa
    (vx_hat (B := OW) (fun w hw => hts w (xg_ioo w hw)) xn_ioo (fun w hw => ?_)) xo_ioo hU hN hS (hls.trans hml.symm) d0 d3 d4 d7 d10 (fun x hx => (hex x hx).elim) hRf hRl hRc hRs hlocks (fun t ht h1 h2 => ⟨rfl, t.heap.size, grown hH.1 h1 h2⟩) hH.2.2 hc hs
  have h9 := hE.2.2.2.2.1 w hw
  rcases List.mem_append.mp hw with hw | hw
  · obtain ⟨z, -, rfl⟩ := List.mem_map.mp hw
    exact va_Nw.use rfl h9
  · obtain ⟨z, -, rfl⟩ := List.mem_map.mp hw
    exact va_Nw.use rfl h9
end PRR
end
