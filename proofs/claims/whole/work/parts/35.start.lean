/-! ===== from the law's entry ===== -/
/-- what is owed of the pure functions -/
def o7 : PC := .inr (7, [.null, .null, .null, .null, .null, .null, .int 0, .int 0])
def o9 : PC := .inr (9, [.int 0, .null, .null])
def SemOK (G : GE) : Prop := ∀ h0 : PH, (∀ q, h0.2 q = none) → gDE G < h0.1 → ∃ h2, f_X6_init G h0.1 (h0.1 + 1, va_up h0.2 h0.1 (some o7)) = some ((), h2) ∧
  ∃ h4, f_X8_init G h2.1 (h2.1 + 1, va_up h2.2 h2.1 (some o9)) = some ((), h4) ∧ ∃ Inv : PH → Prop, Inv (h4.1 + 1, va_up h4.2 h4.1 (some (cJ 1))) ∧ LawSteps G h0.1 h2.1 h4.1 Inv
theorem m_57 : Cond.classLink "VaneHouseLaw" 8 "VaneHouse" ∈ W0 := w0_of 57 (by decide +kernel) rfl
theorem m_58 : Cond.instantiable "VaneHouse" 8 ∈ W0 := w0_of 58 (by decide +kernel) rfl
theorem fn_RL_8 : FN RL 8 7 8 [.null, .null, .null, .null, .null, .null, .int 0, .int 0] := ⟨RX6, TX6, tyX6, rfl, inW_7, tyX6_ok, m_57, m_58, m_32, fun j hj => by rcases (show j = 0 ∨ j = 1 ∨ j = 2 ∨ j = 3 ∨ j = 4 ∨ j = 5 ∨ j = 6 ∨ j = 7 by omega) with rfl | rfl | rfl | rfl | rfl | rfl | rfl | rfl <;> rfl⟩
theorem m_827 : Cond.classLink "VaneHouseLaw" 75 "VaneHouseModel" ∈ W0 := w0_of 827 (by decide +kernel) rfl
theorem m_828 : Cond.instantiable "VaneHouseModel" 3 ∈ W0 := w0_of 828 (by decide +kernel) rfl
theorem fn_RL_75 : FN RL 75 9 3 [.int 0, .null, .null] := ⟨RX8, TX8, tyX8, rfl, inW_9, tyX8_ok, m_827, m_828, m_42, fun j hj => by rcases (show j = 0 ∨ j = 1 ∨ j = 2 by omega) with rfl | rfl | rfl <;> rfl⟩
theorem m_59 : Cond.methodLink "VaneHouseLaw" 74 ⟨"VaneHouse", "<init>", "()V"⟩ ∈ W0 := w0_of 59 (by decide +kernel) rfl
theorem m_829 : Cond.methodLink "VaneHouseLaw" 77 ⟨"VaneHouseModel", "<init>", "()V"⟩ ∈ W0 := w0_of 829 (by decide +kernel) rfl
theorem m_61 : Cond.code ⟨"VaneHouse", "<init>", "()V"⟩ prog_1_method_1_code 1 none ∈ W0 := w0_of 61 (by decide +kernel) rfl
theorem m_60 : Cond.instanceMethod ⟨"VaneHouse", "<init>", "()V"⟩ ∈ W0 := w0_of 60 (by decide +kernel) rfl
theorem mi_X6_init : MI yX6_init cX6_init 1 0 := ⟨⟨m_61, m_32, by decide, by decide, by decide⟩, m_60, rfl⟩
theorem m_831 : Cond.code ⟨"VaneHouseModel", "<init>", "()V"⟩ prog_9_method_1_code 1 none ∈ W0 := w0_of 831 (by decide +kernel) rfl
theorem m_830 : Cond.instanceMethod ⟨"VaneHouseModel", "<init>", "()V"⟩ ∈ W0 := w0_of 830 (by decide +kernel) rfl
theorem mi_X8_init : MI yX8_init cX8_init 1 0 := ⟨⟨m_831, m_42, by decide, by decide, by decide⟩, m_830, rfl⟩
theorem lkw_74 : Cond.methodLink "VaneHouseLaw" 74 yX6_init ∈ W0 := m_59
theorem lkw_77 : Cond.methodLink "VaneHouseLaw" 77 yX8_init ∈ W0 := m_829
theorem lw_hfl {l : Launch} (h : l.flags = flags0) : l.stackTraces = false := by
  unfold Launch.stackTraces
  rw [h]
  decide +kernel
theorem arrP {s : State} {args : Array Value} {ty : FieldType} (h : (Cond.arrayClass ty).before args s = true) (hty : ∀ C, ty ≠ .object C) : ∃ cA, ArrOfT s cA ty ∧ va_RA s cA ty := by
  obtain ⟨c, k, comp, h1, h2, h3⟩ := Cond.arrayClass_spec h
  refine ⟨c, fun N z => ⟨(fun k h => by cases h), k, h2, comp, h3⟩, ?_⟩
  cases ty with
  | object C => exact absurd rfl (hty C)
  | _ => exact h1
theorem arrO {s : State} {args : Array Value} {C : String} (h : (Cond.arrayOver (.object C)).before args s = true) : ∃ cA, ArrOfT s cA (.object C) ∧ va_RA s cA (.object C) := by
  obtain ⟨comp, c, k, h1, -, h2, h3, h4⟩ := Cond.arrayOver_spec h
  exact ⟨c, fun N z => ⟨(fun k h => by cases h), k, h2, comp, h3⟩, k, comp, h2, h3, h1, h4⟩
theorem ex_eval {args : Array Value} {s : State} {t : Term} {nm : String} (hex : (Cond.exactly t nm).before args s = true) : ∃ a, t.eval args s none [] s = some (.ref a) := by
  obtain ⟨a, c, cell, k, h1, -⟩ := Cond.exactly_spec hex
  exact ⟨a, h1⟩
set_option maxRecDepth 100000 in
set_option maxHeartbeats 4000000 in
theorem st_csF {args : Array Value} {s : State} (hg : (Jvm.Cond.and given_1 narrow_1).before args s = true) (hts : ∀ w ∈ lw_tbl, w.before args s = true) {A : Nat → Prop} (hA : ∀ a : Nat, a < s.heap.size → ¬ A a) : ∃ t : Nat, va_Z RX1 "COLUMN_STEPS" "[I" (.ref t) A s s.heap ∧ va_T .int t 8 (fun j => .int (csF j)) A s s.heap := by
  have hs := flat_of_before _ hg
  obtain ⟨t, h1, h2⟩ := va_Tof (tm := (.static "VaneHouse$Mast" "COLUMN_STEPS" "[I")) (ty := .int) (N := 8) (f := fun j => .int (csF j)) (by decide) (hs _ (by decide +kernel)) (va_eqt (hs (.eq (.length (.static "VaneHouse$Mast" "COLUMN_STEPS" "[I")) (.int 8)) (by decide +kernel))) (fun j hj => by
    match j, hj with
    | 0, _ => exact va_eqt (hs (.eq (.elem (.static "VaneHouse$Mast" "COLUMN_STEPS" "[I") (.int 0)) (.int 0)) (by decide +kernel))
    | 1, _ => exact va_eqt (hs (.eq (.elem (.static "VaneHouse$Mast" "COLUMN_STEPS" "[I") (.int 1)) (.int 1)) (by decide +kernel))
    | 2, _ => exact va_eqt (hs (.eq (.elem (.static "VaneHouse$Mast" "COLUMN_STEPS" "[I") (.int 2)) (.int 1)) (by decide +kernel))
    | 3, _ => exact va_eqt (hs (.eq (.elem (.static "VaneHouse$Mast" "COLUMN_STEPS" "[I") (.int 3)) (.int 1)) (by decide +kernel))
    | 4, _ => exact va_eqt (hs (.eq (.elem (.static "VaneHouse$Mast" "COLUMN_STEPS" "[I") (.int 4)) (.int 0)) (by decide +kernel))
    | 5, _ => exact va_eqt (hs (.eq (.elem (.static "VaneHouse$Mast" "COLUMN_STEPS" "[I") (.int 5)) (.int (-1))) (by decide +kernel))
    | 6, _ => exact va_eqt (hs (.eq (.elem (.static "VaneHouse$Mast" "COLUMN_STEPS" "[I") (.int 6)) (.int (-1))) (by decide +kernel))
    | 7, _ => exact va_eqt (hs (.eq (.elem (.static "VaneHouse$Mast" "COLUMN_STEPS" "[I") (.int 7)) (.int (-1))) (by decide +kernel))
    | j + 8, hj => omega) hA
  exact ⟨t, va_Zof (hts (.laysStatic "VaneHouse$Mast" "COLUMN_STEPS" "[I") (by decide +kernel)) (hts (.initialized "VaneHouse$Mast") (by decide +kernel)) h1 hA, h2⟩
set_option maxRecDepth 100000 in
set_option maxHeartbeats 4000000 in
theorem st_rsF {args : Array Value} {s : State} (hg : (Jvm.Cond.and given_1 narrow_1).before args s = true) (hts : ∀ w ∈ lw_tbl, w.before args s = true) {A : Nat → Prop} (hA : ∀ a : Nat, a < s.heap.size → ¬ A a) : ∃ t : Nat, va_Z RX1 "ROW_STEPS" "[I" (.ref t) A s s.heap ∧ va_T .int t 8 (fun j => .int (rsF j)) A s s.heap := by
  have hs := flat_of_before _ hg
  obtain ⟨t, h1, h2⟩ := va_Tof (tm := (.static "VaneHouse$Mast" "ROW_STEPS" "[I")) (ty := .int) (N := 8) (f := fun j => .int (rsF j)) (by decide) (hs _ (by decide +kernel)) (va_eqt (hs (.eq (.length (.static "VaneHouse$Mast" "ROW_STEPS" "[I")) (.int 8)) (by decide +kernel))) (fun j hj => by
    match j, hj with
    | 0, _ => exact va_eqt (hs (.eq (.elem (.static "VaneHouse$Mast" "ROW_STEPS" "[I") (.int 0)) (.int (-1))) (by decide +kernel))
    | 1, _ => exact va_eqt (hs (.eq (.elem (.static "VaneHouse$Mast" "ROW_STEPS" "[I") (.int 1)) (.int (-1))) (by decide +kernel))
    | 2, _ => exact va_eqt (hs (.eq (.elem (.static "VaneHouse$Mast" "ROW_STEPS" "[I") (.int 2)) (.int 0)) (by decide +kernel))
    | 3, _ => exact va_eqt (hs (.eq (.elem (.static "VaneHouse$Mast" "ROW_STEPS" "[I") (.int 3)) (.int 1)) (by decide +kernel))
    | 4, _ => exact va_eqt (hs (.eq (.elem (.static "VaneHouse$Mast" "ROW_STEPS" "[I") (.int 4)) (.int 1)) (by decide +kernel))
    | 5, _ => exact va_eqt (hs (.eq (.elem (.static "VaneHouse$Mast" "ROW_STEPS" "[I") (.int 5)) (.int 1)) (by decide +kernel))
    | 6, _ => exact va_eqt (hs (.eq (.elem (.static "VaneHouse$Mast" "ROW_STEPS" "[I") (.int 6)) (.int 0)) (by decide +kernel))
    | 7, _ => exact va_eqt (hs (.eq (.elem (.static "VaneHouse$Mast" "ROW_STEPS" "[I") (.int 7)) (.int (-1))) (by decide +kernel))
    | j + 8, hj => omega) hA
  exact ⟨t, va_Zof (hts (.laysStatic "VaneHouse$Mast" "ROW_STEPS" "[I") (by decide +kernel)) (hts (.initialized "VaneHouse$Mast") (by decide +kernel)) h1 hA, h2⟩
set_option maxRecDepth 100000 in
set_option maxHeartbeats 4000000 in
theorem st_DE {args : Array Value} {s : State} (hg : (Jvm.Cond.and given_1 narrow_1).before args s = true) (hts : ∀ w ∈ lw_tbl, w.before args s = true) {A : Nat → Prop} (hA : ∀ a : Nat, a < s.heap.size → ¬ A a) : ∃ t : Nat, va_Z RJx4a65c "DEFAULTCAPACITY_EMPTY_ELEMENTDATA" "[Ljava/lang/Object;" (.ref t) A s s.heap ∧ va_T (.object "java/lang/Object") t 0 (fun _ => .null) A s s.heap ∧ va_O "[Ljava/lang/Object;" t A s s.heap := by
  have hs := flat_of_before _ hg
  obtain ⟨t, h1, h2⟩ := va_Tof (tm := (.static "java/util/ArrayList" "DEFAULTCAPACITY_EMPTY_ELEMENTDATA" "[Ljava/lang/Object;")) (ty := .object "java/lang/Object") (N := 0) (f := fun _ => .null) (by decide) (hs _ (by decide +kernel)) (va_eqt (hs (.eq (.length (.static "java/util/ArrayList" "DEFAULTCAPACITY_EMPTY_ELEMENTDATA" "[Ljava/lang/Object;")) (.int 0)) (by decide +kernel))) (fun j hj => by omega) hA
  exact ⟨t, va_Zof (hts (.laysStatic "java/util/ArrayList" "DEFAULTCAPACITY_EMPTY_ELEMENTDATA" "[Ljava/lang/Object;") (by decide +kernel)) (hts (.initialized "java/util/ArrayList") (by decide +kernel)) h1 hA, h2, va_Oof (hs (.exactly (.static "java/util/ArrayList" "DEFAULTCAPACITY_EMPTY_ELEMENTDATA" "[Ljava/lang/Object;") "[Ljava/lang/Object;") (by decide +kernel)) h1 hA⟩
theorem ex_str {args : Array Value} {s : State} {k : Nat} {tx : String} (h : (Cond.exactly (.string "VaneHouse" k) "java/lang/String").before args s = true) (h2 : (Cond.stringRef "VaneHouse" k tx).before args s = true) : ∃ sa : Nat, vk_R RX6 k tx sa s := by
  obtain ⟨a, ha⟩ := ex_eval h
  exact ⟨a, vk_R.of h2 ha⟩
set_option maxRecDepth 100000 in
set_option maxHeartbeats 4000000 in
theorem st_strs {args : Array Value} {s : State} (hg : (Jvm.Cond.and given_1 narrow_1).before args s = true) (hts : ∀ w ∈ lw_tbl, w.before args s = true) : ∀ x ∈ strs, ∃ sa : Nat, vk_R RX6 x.1 x.2 sa s := by
  have hs := flat_of_before _ hg
  unfold strs
  exact List.forall_mem_cons.mpr ⟨ex_str (hs (.exactly (.string "VaneHouse" 55) "java/lang/String") (by decide +kernel)) (hts (.stringRef "VaneHouse" 55 "no such wind") (by decide +kernel)),
    List.forall_mem_cons.mpr ⟨ex_str (hs (.exactly (.string "VaneHouse" 69) "java/lang/String") (by decide +kernel)) (hts (.stringRef "VaneHouse" 69 "the table of winds is full") (by decide +kernel)),
    List.forall_mem_cons.mpr ⟨ex_str (hs (.exactly (.string "VaneHouse" 72) "java/lang/String") (by decide +kernel)) (hts (.stringRef "VaneHouse" 72 "no such hour") (by decide +kernel)),
    List.forall_mem_cons.mpr ⟨ex_str (hs (.exactly (.string "VaneHouse" 76) "java/lang/String") (by decide +kernel)) (hts (.stringRef "VaneHouse" 76 "a wind does not tell this") (by decide +kernel)),
    List.forall_mem_cons.mpr ⟨ex_str (hs (.exactly (.string "VaneHouse" 87) "java/lang/String") (by decide +kernel)) (hts (.stringRef "VaneHouse" 87 "no such place") (by decide +kernel)),
    List.forall_mem_cons.mpr ⟨ex_str (hs (.exactly (.string "VaneHouse" 89) "java/lang/String") (by decide +kernel)) (hts (.stringRef "VaneHouse" 89 "no such vane can be") (by decide +kernel)),
    List.forall_mem_cons.mpr ⟨ex_str (hs (.exactly (.string "VaneHouse" 98) "java/lang/String") (by decide +kernel)) (hts (.stringRef "VaneHouse" 98 "there is no room for it") (by decide +kernel)),
    List.forall_mem_cons.mpr ⟨ex_str (hs (.exactly (.string "VaneHouse" 117) "java/lang/String") (by decide +kernel)) (hts (.stringRef "VaneHouse" 117 "no such vane") (by decide +kernel)),
    List.forall_mem_cons.mpr ⟨ex_str (hs (.exactly (.string "VaneHouse" 130) "java/lang/String") (by decide +kernel)) (hts (.stringRef "VaneHouse" 130 "no such direction") (by decide +kernel)),
    List.forall_mem_cons.mpr ⟨ex_str (hs (.exactly (.string "VaneHouse" 135) "java/lang/String") (by decide +kernel)) (hts (.stringRef "VaneHouse" 135 "it is bound") (by decide +kernel)),
    List.forall_mem_cons.mpr ⟨ex_str (hs (.exactly (.string "VaneHouse" 143) "java/lang/String") (by decide +kernel)) (hts (.stringRef "VaneHouse" 143 "a vane does not tell this") (by decide +kernel)),
    List.forall_mem_cons.mpr ⟨ex_str (hs (.exactly (.string "VaneHouse" 155) "java/lang/String") (by decide +kernel)) (hts (.stringRef "VaneHouse" 155 "no such motion can be") (by decide +kernel)),
    List.forall_mem_cons.mpr ⟨ex_str (hs (.exactly (.string "VaneHouse" 157) "java/lang/String") (by decide +kernel)) (hts (.stringRef "VaneHouse" 157 "there are enough motions") (by decide +kernel)),
    List.forall_mem_cons.mpr ⟨ex_str (hs (.exactly (.string "VaneHouse" 167) "java/lang/String") (by decide +kernel)) (hts (.stringRef "VaneHouse" 167 "no such motion") (by decide +kernel)),
    List.forall_mem_cons.mpr ⟨ex_str (hs (.exactly (.string "VaneHouse" 169) "java/lang/String") (by decide +kernel)) (hts (.stringRef "VaneHouse" 169 "this hour does not come") (by decide +kernel)),
    List.forall_mem_cons.mpr ⟨ex_str (hs (.exactly (.string "VaneHouse" 171) "java/lang/String") (by decide +kernel)) (hts (.stringRef "VaneHouse" 171 "the agenda is full") (by decide +kernel)),
    List.forall_mem_cons.mpr ⟨ex_str (hs (.exactly (.string "VaneHouse" 178) "java/lang/String") (by decide +kernel)) (hts (.stringRef "VaneHouse" 178 "a motion does not tell this") (by decide +kernel)),
    List.forall_mem_cons.mpr ⟨ex_str (hs (.exactly (.string "VaneHouse" 187) "java/lang/String") (by decide +kernel)) (hts (.stringRef "VaneHouse" 187 "not so many hours at once") (by decide +kernel)),
    List.forall_mem_cons.mpr ⟨ex_str (hs (.exactly (.string "VaneHouse" 189) "java/lang/String") (by decide +kernel)) (hts (.stringRef "VaneHouse" 189 "time ends before") (by decide +kernel)),
    List.forall_mem_cons.mpr ⟨ex_str (hs (.exactly (.string "VaneHouse" 205) "java/lang/String") (by decide +kernel)) (hts (.stringRef "VaneHouse" 205 "this is not counted") (by decide +kernel)),
    List.forall_mem_cons.mpr ⟨ex_str (hs (.exactly (.string "VaneHouse" 210) "java/lang/String") (by decide +kernel)) (hts (.stringRef "VaneHouse" 210 "no such party") (by decide +kernel)),
    List.forall_mem_cons.mpr ⟨ex_str (hs (.exactly (.string "VaneHouse" 212) "java/lang/String") (by decide +kernel)) (hts (.stringRef "VaneHouse" 212 "a party does not tell this") (by decide +kernel)),
    (fun _ h => absurd h List.not_mem_nil)⟩⟩⟩⟩⟩⟩⟩⟩⟩⟩⟩⟩⟩⟩⟩⟩⟩⟩⟩⟩⟩⟩
set_option maxRecDepth 100000 in
set_option maxHeartbeats 4000000 in
theorem st_ncs {args : Array Value} {s : State} (hg : (Jvm.Cond.and given_1 narrow_1).before args s = true) : ∀ x ∈ ncs, va_Nc x.1 x.2 s := by
  have hs := flat_of_before _ hg
  intro x hx
  have h1 : ∀ x ∈ ncs, Cond.not (.castable x.1 x.2) ∈ flatC (Jvm.Cond.and given_1 narrow_1) := by decide +kernel
  exact va_Nc.of (hs _ (h1 x hx))
theorem st_NW {args : Array Value} {s : State} (hts : ∀ w ∈ lw_tbl, w.before args s = true) : ∀ w ∈ NW, va_Nw w s := by
  have h1 : ∀ w ∈ NW, w ∈ lw_tbl := by decide +kernel
  have h2 : ∀ w ∈ NW, w.onTables = true := by decide +kernel
  exact fun w hw => va_Nw.of (h2 w hw) (hts w (h1 w hw))
theorem st_OW {args : Array Value} {s : State} (hts : ∀ w ∈ lw_tbl, w.before args s = true) : ∀ w ∈ OW, va_Nw w s := by
  have h1 : ∀ w ∈ OW, w ∈ lw_tbl := by decide +kernel
  have h2 : ∀ w ∈ OW, w.onTables = true := by decide +kernel
  exact fun w hw => va_Nw.of (h2 w hw) (hts w (h1 w hw))
set_option maxRecDepth 100000 in
set_option maxHeartbeats 4000000 in
theorem st_env {args : Array Value} {s : State} (hg : (Jvm.Cond.and given_1 narrow_1).before args s = true) (hts : ∀ w ∈ lw_tbl, w.before args s = true) : ∃ G : GE, EvG G s ∧ gB G = s.heap.size ∧ gH G = s.heap := by
  have hs := flat_of_before _ hg
  have hw0 : ∀ w ∈ W0, w.before args s = true := fun w hw => hts w (List.mem_filter.mp hw).1
  obtain ⟨c0, i0, k0⟩ := u_known (C := RJx4a65c) (T := TJx4a65c) (N := 3) (n := 3) (ws := W0) hw0 inW_0 (hw0 _ (by decide +kernel : Cond.instantiable RJx4a65c 3 ∈ W0))
  obtain ⟨c1, i1, k1⟩ := u_known (C := RX0) (T := TX0) (N := 2) (n := 2) (ws := W0) hw0 inW_1 (hw0 _ (by decide +kernel : Cond.instantiable RX0 2 ∈ W0))
  obtain ⟨c2, i2, k2⟩ := u_known (C := RX1) (T := TX1) (N := 5) (n := 5) (ws := W0) hw0 inW_2 (hw0 _ (by decide +kernel : Cond.instantiable RX1 5 ∈ W0))
  obtain ⟨c3, i3, k3⟩ := u_known (C := RX2) (T := TX2) (N := 7) (n := 7) (ws := W0) hw0 inW_3 (hw0 _ (by decide +kernel : Cond.instantiable RX2 7 ∈ W0))
  obtain ⟨c4, i4, k4⟩ := u_known (C := RX3) (T := TX3) (N := 1) (n := 1) (ws := W0) hw0 inW_4 (hw0 _ (by decide +kernel : Cond.instantiable RX3 1 ∈ W0))
  obtain ⟨c5, i5, k5⟩ := u_known (C := RX4) (T := TX4) (N := 7) (n := 7) (ws := W0) hw0 inW_5 (hw0 _ (by decide +kernel : Cond.instantiable RX4 7 ∈ W0))
  obtain ⟨c6, i6, k6⟩ := u_known (C := RX5) (T := TX5) (N := 4) (n := 4) (ws := W0) hw0 inW_6 (hw0 _ (by decide +kernel : Cond.instantiable RX5 4 ∈ W0))
  obtain ⟨c7, i7, k7⟩ := u_known (C := RX6) (T := TX6) (N := 8) (n := 8) (ws := W0) hw0 inW_7 (hw0 _ (by decide +kernel : Cond.instantiable RX6 8 ∈ W0))
  obtain ⟨c8, i8, k8⟩ := u_known (C := RX7) (T := TX7) (N := 12) (n := 12) (ws := W0) hw0 inW_8 (hw0 _ (by decide +kernel : Cond.instantiable RX7 12 ∈ W0))
  obtain ⟨c9, i9, k9⟩ := u_known (C := RX8) (T := TX8) (N := 3) (n := 3) (ws := W0) hw0 inW_9 (hw0 _ (by decide +kernel : Cond.instantiable RX8 3 ∈ W0))
  obtain ⟨t0, a0, b0⟩ := arrP (hts (.arrayClass .int) (by decide +kernel)) (fun C h => by cases h)
  obtain ⟨t1, a1, b1⟩ := arrO (hts (.arrayOver (.object "java/lang/Object")) (by decide +kernel))
  obtain ⟨t2, a2, b2⟩ := arrP (hts (.arrayClass .boolean) (by decide +kernel)) (fun C h => by cases h)
  obtain ⟨t3, a3, b3⟩ := arrP (hts (.arrayClass .long) (by decide +kernel)) (fun C h => by cases h)
  have hA : ∀ a : Nat, a < s.heap.size → ¬ (fun q : Nat => s.heap.size ≤ q) a := fun a h h2 => absurd h (Nat.not_lt.mpr h2)
  obtain ⟨cs, z1, z2⟩ := st_csF hg hts hA
  obtain ⟨rs, z3, z4⟩ := st_rsF hg hts hA
  obtain ⟨de, z5, z6, z7⟩ := st_DE hg hts hA
  obtain ⟨mi, hmi⟩ := va_Mi.of (hs (.isRef (.mirror "[Ljava/lang/Object;")) (by decide +kernel))
  have hU := vx_Zqof (A := fun q : Nat => s.heap.size ≤ q) (hts (.laysStatic Bundle.tN "UNASSIGNED_STACK" Bundle.steD) (by decide +kernel)) (hts (.initialized Bundle.tN) (by decide +kernel)) (hs (.isRef (.static Bundle.tN "UNASSIGNED_STACK" Bundle.steD)) (by decide +kernel)) hA
  have hN := vx_Zqof (A := fun q : Nat => s.heap.size ≤ q) (hts (.laysStatic Bundle.tN "SUPPRESSED_SENTINEL" Bundle.listD) (by decide +kernel)) (hts (.initialized Bundle.tN) (by decide +kernel)) (hs (.isRef (.static Bundle.tN "SUPPRESSED_SENTINEL" Bundle.listD)) (by decide +kernel)) hA
  refine ⟨((((fun k => ([c0, c1, c2, c3, c4, c5, c6, c7, c8, c9] : List ClassId).getD k 0), (fun k => ([i0, i1, i2, i3, i4, i5, i6, i7, i8, i9] : List (Nat → Nat)).getD k (fun _ => 0))), (fun k => ([t0, t1, t2, t3] : List ClassId).getD k 0)), (s.heap.size, s.heap), (cs, rs, de, mi)), ?_, rfl, rfl⟩
  refine ⟨⟨?_, ?_⟩, ⟨z1, z3, z5⟩, ⟨z2, z4, z6⟩, st_NW hts, st_OW hts, ⟨hmi, va_AO.of (hts (.arrayOver (.object "java/lang/Object")) (by decide +kernel)), z7⟩, ⟨hU, hN⟩, st_strs hg hts, st_ncs hg⟩
  · intro k q hq
    match k, hq with
    | 0, hq => cases hq; exact k0
    | 1, hq => cases hq; exact k1
    | 2, hq => cases hq; exact k2
    | 3, hq => cases hq; exact k3
    | 4, hq => cases hq; exact k4
    | 5, hq => cases hq; exact k5
    | 6, hq => cases hq; exact k6
    | 7, hq => cases hq; exact k7
    | 8, hq => cases hq; exact k8
    | 9, hq => cases hq; exact k9
    | k + 10, hq => simp [vwCl] at hq
  · intro k q hq
    match k, hq with
    | 0, hq => cases hq; exact ⟨a0, b0⟩
    | 1, hq => cases hq; exact ⟨a1, b1⟩
    | 2, hq => cases hq; exact ⟨a2, b2⟩
    | 3, hq => cases hq; exact ⟨a3, b3⟩
    | k + 4, hq => simp [tysL] at hq
set_option maxRecDepth 100000 in
set_option maxHeartbeats 4000000 in
theorem start_open (hsem : ∀ G : GE, SemOK G) {p : Program} {e : Env} {s : State} {m : MethodId} {below : List Frame} {meth : Method} {c : Code} (l : Launch) (hfl : l.stackTraces = false) {b L : Nat} {xs : Nat → Int32} (hL : L ≤ 3584) (hx : p.tables.exec = Jvm.exec) (hb : c.code = code) (hr : meth.sig.returnType = Jvm.Pilot.CVaneHouseLaw_law_r2191_562d02.ret) (hml : c.maxLocals = 9) (hown : s.vm.findClass "VaneHouseLaw" = some m.cls) (hts : ∀ w ∈ lw_tbl, w.before #[Value.ref b] s = true) (hX : va_X b L xs s s.heap) (hbl : b < s.heap.size) (hlocks : meth.locks = false) (hgv : (Jvm.Cond.and given_1 narrow_1).before #[Value.ref b] s = true) {Q : State → Prop}
    (hend : ∀ (H : Heap) (ls : Array Slot), W p l e room_1 (s.setDrawn s.drawn) m #[Value.ref b] below meth c H [] 601024 7293034 Q (F0 m 1533 ls [.int 1])) :
    W p l e room_1 s m #[Value.ref b] below meth c s.heap [] 0 0 Q (entryFrame m ([Value.ref b] : List Value).toArray 9) := by
  refine W.base ?_
  obtain ⟨G, hE, hgB, hgH⟩ := st_env hgv hts
  have hE : EvG G (s.setDrawn s.drawn) := EvG.same rfl hE
  have X : Cx G p (s.setDrawn s.drawn) m #[Value.ref b] meth c cL_law 9 "VaneHouseLaw" meth.name Jvm.Pilot.CVaneHouseLaw_law_r2191_562d02.ret :=
    ⟨hx, hb, hml, hown, fun w hw => dr_words hts _ w (List.mem_filter.mp hw).1, hE, hlocks, rfl, hr, Nat.le_of_eq hgB, fun q _ => by rw [hgH]; rfl⟩
  have hX : va_X b L xs (s.setDrawn s.drawn) (s.setDrawn s.drawn).heap := hX
  have hbA : ¬ gB G ≤ b := by rw [hgB]; exact Nat.not_le.mpr hbl
  have hbl : b < (s.setDrawn s.drawn).heap.size := hbl
  have hH : Hx G (s.setDrawn s.drawn) (s.heap.size, fun _ => none) s.heap [] := ⟨⟨rfl, Nat.le_of_eq hgB, fun q _ => by rw [hgH], fun q c h => by cases h⟩, Nat.le_refl _, fun z hz => by cases hz⟩
  have hde : gDE G < s.heap.size := by
    obtain ⟨cell, -, -, -, -, -, -, h7⟩ := hE.2.2.1.2.2
    rw [← hgB]
    exact Nat.lt_of_not_le h7
  obtain ⟨h2, e2, h4, e4, Inv, hI, HS⟩ := hsem G (s.heap.size, fun _ => none) (fun _ => rfl) hde
  have hl := lv_entry ([.ref b]) (n := 9) (Nat.le_of_ble_eq_true rfl)
  rw [lg_entry_eq]
  generalize (lg_sl ([.ref b]) ++ List.replicate (9 - (lg_sl ([.ref b])).length) Slot.unset).toArray = ls at hl ⊢
  have hl : lv_has ls 9 [(0, .ref b)] := hl
  have hb := X.2.1
  obtain ⟨H, hHe⟩ : ∃ z, z = s.heap := ⟨_, rfl⟩
  obtain ⟨z0, hz0⟩ : ∃ z : PH, z = (s.heap.size, fun _ => none) := ⟨_, rfl⟩
  rw [← hz0] at hH
  rw [← hHe] at hH
  subst hz0
  show W p l e room_1 (s.setDrawn s.drawn) m #[Value.ref b] below meth c s.heap [] 0 0 Q (F0 m 0 ls [])
  rw [← hHe]
  refine p_new X hH fn_RL_8 (F := fun q h => some (q, h)) (by decide) (by decide) rfl dL_law_0 (fun q h H hH e0 => ?_)
  cases e0
  refine W.widen (k := 1) (n := 8) (by decide) (by decide) ?_
  refine lv_dup hx hb dL_law_3 rfl ?_
  refine p_cI (As := []) (b := s.heap.size) (rest := [.ref s.heap.size]) X hH (c_X6_init l G s.heap.size _ () h2 e2) mi_X6_init (Or.inl lkw_74) (by decide) rfl hl.1 (Nat.le_of_ble_eq_true rfl) dL_law_4 (c2 := 20) (s2 := 200) (by decide) (fun H locs hH => ?_)
  refine lv_astore_n (lv' := [(1, .ref s.heap.size), (0, .ref b)]) hx hb dL_law_7 rfl hl (by decide) rfl (fun ls hl => ?_)
  refine p_new X hH fn_RL_75 (F := fun q h => some (q, h)) (by decide) (by decide) rfl dL_law_8 (fun q h H hH e0 => ?_)
  cases e0
  refine lv_dup hx hb dL_law_11 rfl ?_
  refine p_cI (As := []) (b := h2.1) (rest := [.ref h2.1]) X hH (c_X8_init l G h2.1 _ () h4 e4) mi_X8_init (Or.inl lkw_77) (by decide) rfl hl.1 (Nat.le_of_ble_eq_true rfl) dL_law_12 (c2 := 90) (s2 := 1900) (by decide) (fun H locs hH => ?_)
  refine lv_astore_n (lv' := [(2, .ref h2.1), (1, .ref s.heap.size), (0, .ref b)]) hx hb dL_law_15 rfl hl (by decide) rfl (fun ls hl => ?_)
  refine lv_iconst (v := 1) hx hb dL_law_16 (by decide) ?_
  refine p_newJ X hH (by decide +kernel) (N := 1) (F := fun q h => some (q, h)) (by decide) rfl (by decide) (by decide) (by decide) rfl dL_law_17 (fun q h H hH e0 => ?_)
  cases e0
  refine lv_astore_n (lv' := [(3, .ref h4.1), (2, .ref h2.1), (1, .ref s.heap.size), (0, .ref b)]) hx hb dL_law_19 rfl hl (by decide) rfl (fun ls hl => ?_)
  refine lv_iconst (v := 0) hx hb dL_law_20 (by decide) ?_
  refine lv_istore (lv' := [(4, .int 0), (3, .ref h4.1), (2, .ref h2.1), (1, .ref s.heap.size), (0, .ref b)]) hx hb dL_law_21 hl (by decide) rfl (fun ls hl => ?_)
  refine W.widen (k := 100 + 20 * 0) (n := 2000 + 240 * 0) (by decide) (by decide) ?_
  refine law_loop X hX hbl hbA hL hfl Inv HS (fun h H locs ls cells slots hH h1 h2 => ?_) 513 0 rfl _ H locs ls hI hH (lv_sub hl [4, 3, 2, 1, 0] rfl)
  refine lv_iconst (v := 1) hx hb dL_law_1532 (by decide) ?_
  refine va_forget (fun q hq => by have h9 := hH.2.2 q hq; rw [hgB] at h9; exact h9) (W.widen h1 h2 (hend H ls))
