/-! ===== the law's wrappers: a call of the class that may throw, its code told ===== -/
def wQ (G : GE) (o : Sum Int32 String) (h1 h2 : PH) (cd : String → Int32) : Array Value → State → Outcome → State → Prop := fun _ _ oc t =>
  (∃ r, o = .inl r ∧ oc = .returned (some (.int 0)) ∧ Hd G h2 t.heap) ∨ ∃ E, o = .inr E ∧ oc = .returned (some (.int (cd E))) ∧ ∃ sz, Hd G (sz, h1.2) t.heap
def Wt (l : Launch) (y : MethodName) (bytes : ByteArray) (maxL : Nat) (hh : List (Nat × Nat × Nat × Nat)) (rm : Room) (G : GE) (vs : List Value) (h : PH) (o : Sum Int32 String) (h1 h2 : PH) (cd : String → Int32) : Prop :=
  Met l y (.codeWith y bytes maxL (some .int) hh :: W0) rm (va_Pc vs (fun U => Hd G h U.heap ∧ EvG G U)) (wQ G o h1 h2 cd) rm.cells rm.slots (gA G)
abbrev Wq (G : GE) (o : Sum Int32 String) (h1 h2 : PH) (cd : String → Int32) (below : List Frame) (args : Array Value) (s : State) (mc ms : Nat) : State → Prop := MQ below (wQ G o h1 h2 cd) args s mc ms (gA G)
theorem Wt.of {l : Launch} {y : MethodName} {bytes : ByteArray} {maxL : Nat} {hh : List (Nat × Nat × Nat × Nat)} {rm : Room} {G : GE} {vs : List Value} {h : PH} {o : Sum Int32 String} {h1 h2 : PH} {cd : String → Int32} (hy : plainName y.cls = true) (hvs : (lg_sl vs).length ≤ maxL)
    (body : ∀ (p : Program) (e : Env) (s : State) (m : MethodId) (args : Array Value) (below : List Frame) (meth : Method) (c : Code) (ls : Array Slot), Cx G p s m args meth c bytes maxL y.cls y.name (some .int) → c.exceptionTable.toList = tableOf hh → Hx G s h s.heap [] → lv_has ls maxL (lv_args 0 vs) →
      W p l e rm s m args below meth c s.heap [] 0 0 (Wq G o h1 h2 cd below args s rm.cells rm.slots) (F0 m 0 ls [])) : Wt l y bytes maxL hh rm G vs h o h1 h2 cd := by
  refine va_MetW (cc := bytes) (maxL := maxL) (ret := some .int) (hh := hh) hy rfl ?_
  intro p e s m args below meth c s₁ B hml hv
  obtain ⟨rfl, hH, hE⟩ := hv
  have hts := atoms_spec (ws := .codeWith y bytes maxL (some .int) hh :: W0) B.pre
  have hl := lv_entry vs (n := maxL) hvs
  rw [lg_entry_eq]
  exact body p e s m _ below meth c _ ⟨B.exec, B.bytes, hml, findClass_of_methodNamed B.named, fun w hw => hts w (List.mem_cons_of_mem _ hw), hE, B.notSynchronized, (name_of_methodNamed B.named B.method).1, B.returns, by rw [hH.1]; exact hH.2.1, hH.2.2.1⟩ (vx_table (x := y) B (hts _ List.mem_cons_self)) ⟨hH, Nat.le_refl _, fun z hz => by cases hz⟩ hl
theorem m_351 : Cond.methodLink "VaneHouseLaw" 7 ⟨"VaneHouse", "beginWind", "(IIZ)I"⟩ ∈ W0 := w0_of 351 (by decide +kernel) rfl
theorem m_354 : Cond.code ⟨"VaneHouse", "beginWind", "(IIZ)I"⟩ prog_1_method_2_code 5 (some .int) ∈ W0 := w0_of 354 (by decide +kernel) rfl
theorem m_352 : Cond.instanceMethod ⟨"VaneHouse", "beginWind", "(IIZ)I"⟩ ∈ W0 := w0_of 352 (by decide +kernel) rfl
theorem m_353 : Cond.selects "VaneHouse" ⟨"VaneHouse", "beginWind", "(IIZ)I"⟩ ⟨"VaneHouse", "beginWind", "(IIZ)I"⟩ ∈ W0 := w0_of 353 (by decide +kernel) rfl
theorem mv_X6_beginWind : MV yX6_beginWind cX6_beginWind 5 (some .int) 3 := ⟨⟨m_354, m_32, by decide, by decide, by decide⟩, m_352, m_353⟩
theorem m_350 : Cond.classLink "VaneHouseLaw" 13 "java/lang/IllegalArgumentException" ∈ W0 := w0_of 350 (by decide +kernel) rfl
theorem m_31 : Cond.initialized "VaneHouseLaw" ∈ W0 := w0_of 31 (by decide +kernel) rfl
theorem m_348 : Cond.static ⟨"VaneHouseLaw", "beginWind", "(LVaneHouse;IIZ[J)I"⟩ ∈ W0 := w0_of 348 (by decide +kernel) rfl
theorem m_437 : Cond.methodLink "VaneHouseLaw" 15 ⟨"VaneHouse", "addWind", "(IIZ)I"⟩ ∈ W0 := w0_of 437 (by decide +kernel) rfl
theorem m_440 : Cond.code ⟨"VaneHouse", "addWind", "(IIZ)I"⟩ prog_1_method_3_code 4 (some .int) ∈ W0 := w0_of 440 (by decide +kernel) rfl
theorem m_438 : Cond.instanceMethod ⟨"VaneHouse", "addWind", "(IIZ)I"⟩ ∈ W0 := w0_of 438 (by decide +kernel) rfl
theorem m_439 : Cond.selects "VaneHouse" ⟨"VaneHouse", "addWind", "(IIZ)I"⟩ ⟨"VaneHouse", "addWind", "(IIZ)I"⟩ ∈ W0 := w0_of 439 (by decide +kernel) rfl
theorem mv_X6_addWind : MV yX6_addWind cX6_addWind 4 (some .int) 3 := ⟨⟨m_440, m_32, by decide, by decide, by decide⟩, m_438, m_439⟩
theorem m_436 : Cond.classLink "VaneHouseLaw" 18 "java/lang/IllegalStateException" ∈ W0 := w0_of 436 (by decide +kernel) rfl
theorem m_434 : Cond.static ⟨"VaneHouseLaw", "addWind", "(LVaneHouse;IIZ[J)I"⟩ ∈ W0 := w0_of 434 (by decide +kernel) rfl
theorem m_461 : Cond.methodLink "VaneHouseLaw" 20 ⟨"VaneHouse", "wind", "(II)I"⟩ ∈ W0 := w0_of 461 (by decide +kernel) rfl
theorem m_464 : Cond.code ⟨"VaneHouse", "wind", "(II)I"⟩ prog_1_method_4_code 3 (some .int) ∈ W0 := w0_of 464 (by decide +kernel) rfl
theorem m_462 : Cond.instanceMethod ⟨"VaneHouse", "wind", "(II)I"⟩ ∈ W0 := w0_of 462 (by decide +kernel) rfl
theorem m_463 : Cond.selects "VaneHouse" ⟨"VaneHouse", "wind", "(II)I"⟩ ⟨"VaneHouse", "wind", "(II)I"⟩ ∈ W0 := w0_of 463 (by decide +kernel) rfl
theorem mv_X6_wind : MV yX6_wind cX6_wind 3 (some .int) 2 := ⟨⟨m_464, m_32, by decide, by decide, by decide⟩, m_462, m_463⟩
theorem m_460 : Cond.classLink "VaneHouseLaw" 24 "java/lang/IndexOutOfBoundsException" ∈ W0 := w0_of 460 (by decide +kernel) rfl
theorem m_458 : Cond.static ⟨"VaneHouseLaw", "wind", "(LVaneHouse;II[J)I"⟩ ∈ W0 := w0_of 458 (by decide +kernel) rfl
theorem m_485 : Cond.methodLink "VaneHouseLaw" 26 ⟨"VaneHouse", "setUp", "(IIIIII)I"⟩ ∈ W0 := w0_of 485 (by decide +kernel) rfl
theorem m_488 : Cond.code ⟨"VaneHouse", "setUp", "(IIIIII)I"⟩ prog_1_method_5_code 8 (some .int) ∈ W0 := w0_of 488 (by decide +kernel) rfl
theorem m_486 : Cond.instanceMethod ⟨"VaneHouse", "setUp", "(IIIIII)I"⟩ ∈ W0 := w0_of 486 (by decide +kernel) rfl
theorem m_487 : Cond.selects "VaneHouse" ⟨"VaneHouse", "setUp", "(IIIIII)I"⟩ ⟨"VaneHouse", "setUp", "(IIIIII)I"⟩ ∈ W0 := w0_of 487 (by decide +kernel) rfl
theorem mv_X6_setUp : MV yX6_setUp cX6_setUp 8 (some .int) 6 := ⟨⟨m_488, m_32, by decide, by decide, by decide⟩, m_486, m_487⟩
theorem m_483 : Cond.static ⟨"VaneHouseLaw", "setUp", "(LVaneHouse;IIIIII[J)I"⟩ ∈ W0 := w0_of 483 (by decide +kernel) rfl
theorem m_580 : Cond.methodLink "VaneHouseLaw" 30 ⟨"VaneHouse", "oil", "(I)I"⟩ ∈ W0 := w0_of 580 (by decide +kernel) rfl
theorem m_583 : Cond.code ⟨"VaneHouse", "oil", "(I)I"⟩ prog_1_method_6_code 4 (some .int) ∈ W0 := w0_of 583 (by decide +kernel) rfl
theorem m_581 : Cond.instanceMethod ⟨"VaneHouse", "oil", "(I)I"⟩ ∈ W0 := w0_of 581 (by decide +kernel) rfl
theorem m_582 : Cond.selects "VaneHouse" ⟨"VaneHouse", "oil", "(I)I"⟩ ⟨"VaneHouse", "oil", "(I)I"⟩ ∈ W0 := w0_of 582 (by decide +kernel) rfl
theorem mv_X6_oil : MV yX6_oil cX6_oil 4 (some .int) 1 := ⟨⟨m_583, m_32, by decide, by decide, by decide⟩, m_581, m_582⟩
theorem m_578 : Cond.static ⟨"VaneHouseLaw", "oil", "(LVaneHouse;I[J)I"⟩ ∈ W0 := w0_of 578 (by decide +kernel) rfl
theorem m_596 : Cond.methodLink "VaneHouseLaw" 34 ⟨"VaneHouse", "turn", "(II)I"⟩ ∈ W0 := w0_of 596 (by decide +kernel) rfl
theorem m_599 : Cond.code ⟨"VaneHouse", "turn", "(II)I"⟩ prog_1_method_7_code 5 (some .int) ∈ W0 := w0_of 599 (by decide +kernel) rfl
theorem m_597 : Cond.instanceMethod ⟨"VaneHouse", "turn", "(II)I"⟩ ∈ W0 := w0_of 597 (by decide +kernel) rfl
theorem m_598 : Cond.selects "VaneHouse" ⟨"VaneHouse", "turn", "(II)I"⟩ ⟨"VaneHouse", "turn", "(II)I"⟩ ∈ W0 := w0_of 598 (by decide +kernel) rfl
theorem mv_X6_turn : MV yX6_turn cX6_turn 5 (some .int) 2 := ⟨⟨m_599, m_32, by decide, by decide, by decide⟩, m_597, m_598⟩
theorem m_594 : Cond.static ⟨"VaneHouseLaw", "turn", "(LVaneHouse;II[J)I"⟩ ∈ W0 := w0_of 594 (by decide +kernel) rfl
theorem m_605 : Cond.methodLink "VaneHouseLaw" 37 ⟨"VaneHouse", "vane", "(II)I"⟩ ∈ W0 := w0_of 605 (by decide +kernel) rfl
theorem m_608 : Cond.code ⟨"VaneHouse", "vane", "(II)I"⟩ prog_1_method_8_code 3 (some .int) ∈ W0 := w0_of 608 (by decide +kernel) rfl
theorem m_606 : Cond.instanceMethod ⟨"VaneHouse", "vane", "(II)I"⟩ ∈ W0 := w0_of 606 (by decide +kernel) rfl
theorem m_607 : Cond.selects "VaneHouse" ⟨"VaneHouse", "vane", "(II)I"⟩ ⟨"VaneHouse", "vane", "(II)I"⟩ ∈ W0 := w0_of 607 (by decide +kernel) rfl
theorem mv_X6_vane : MV yX6_vane cX6_vane 3 (some .int) 2 := ⟨⟨m_608, m_32, by decide, by decide, by decide⟩, m_606, m_607⟩
theorem m_603 : Cond.static ⟨"VaneHouseLaw", "vane", "(LVaneHouse;II[J)I"⟩ ∈ W0 := w0_of 603 (by decide +kernel) rfl
theorem m_613 : Cond.methodLink "VaneHouseLaw" 40 ⟨"VaneHouse", "difference", "(II)I"⟩ ∈ W0 := w0_of 613 (by decide +kernel) rfl
theorem m_616 : Cond.code ⟨"VaneHouse", "difference", "(II)I"⟩ prog_1_method_9_code 3 (some .int) ∈ W0 := w0_of 616 (by decide +kernel) rfl
theorem m_614 : Cond.instanceMethod ⟨"VaneHouse", "difference", "(II)I"⟩ ∈ W0 := w0_of 614 (by decide +kernel) rfl
theorem m_615 : Cond.selects "VaneHouse" ⟨"VaneHouse", "difference", "(II)I"⟩ ⟨"VaneHouse", "difference", "(II)I"⟩ ∈ W0 := w0_of 615 (by decide +kernel) rfl
theorem mv_X6_difference : MV yX6_difference cX6_difference 3 (some .int) 2 := ⟨⟨m_616, m_32, by decide, by decide, by decide⟩, m_614, m_615⟩
theorem m_611 : Cond.static ⟨"VaneHouseLaw", "difference", "(LVaneHouse;II[J)I"⟩ ∈ W0 := w0_of 611 (by decide +kernel) rfl
theorem m_620 : Cond.methodLink "VaneHouseLaw" 43 ⟨"VaneHouse", "move", "(IIII)I"⟩ ∈ W0 := w0_of 620 (by decide +kernel) rfl
theorem m_623 : Cond.code ⟨"VaneHouse", "move", "(IIII)I"⟩ prog_1_method_10_code 6 (some .int) ∈ W0 := w0_of 623 (by decide +kernel) rfl
theorem m_621 : Cond.instanceMethod ⟨"VaneHouse", "move", "(IIII)I"⟩ ∈ W0 := w0_of 621 (by decide +kernel) rfl
theorem m_622 : Cond.selects "VaneHouse" ⟨"VaneHouse", "move", "(IIII)I"⟩ ⟨"VaneHouse", "move", "(IIII)I"⟩ ∈ W0 := w0_of 622 (by decide +kernel) rfl
theorem mv_X6_move : MV yX6_move cX6_move 6 (some .int) 4 := ⟨⟨m_623, m_32, by decide, by decide, by decide⟩, m_621, m_622⟩
theorem m_618 : Cond.static ⟨"VaneHouseLaw", "move", "(LVaneHouse;IIII[J)I"⟩ ∈ W0 := w0_of 618 (by decide +kernel) rfl
theorem m_659 : Cond.methodLink "VaneHouseLaw" 47 ⟨"VaneHouse", "put", "(II)I"⟩ ∈ W0 := w0_of 659 (by decide +kernel) rfl
theorem m_662 : Cond.code ⟨"VaneHouse", "put", "(II)I"⟩ prog_1_method_11_code 3 (some .int) ∈ W0 := w0_of 662 (by decide +kernel) rfl
theorem m_660 : Cond.instanceMethod ⟨"VaneHouse", "put", "(II)I"⟩ ∈ W0 := w0_of 660 (by decide +kernel) rfl
theorem m_661 : Cond.selects "VaneHouse" ⟨"VaneHouse", "put", "(II)I"⟩ ⟨"VaneHouse", "put", "(II)I"⟩ ∈ W0 := w0_of 661 (by decide +kernel) rfl
theorem mv_X6_put : MV yX6_put cX6_put 3 (some .int) 2 := ⟨⟨m_662, m_32, by decide, by decide, by decide⟩, m_660, m_661⟩
theorem m_657 : Cond.static ⟨"VaneHouseLaw", "put", "(LVaneHouse;II[J)I"⟩ ∈ W0 := w0_of 657 (by decide +kernel) rfl
theorem m_687 : Cond.methodLink "VaneHouseLaw" 50 ⟨"VaneHouse", "motion", "(II)I"⟩ ∈ W0 := w0_of 687 (by decide +kernel) rfl
theorem m_690 : Cond.code ⟨"VaneHouse", "motion", "(II)I"⟩ prog_1_method_12_code 3 (some .int) ∈ W0 := w0_of 690 (by decide +kernel) rfl
theorem m_688 : Cond.instanceMethod ⟨"VaneHouse", "motion", "(II)I"⟩ ∈ W0 := w0_of 688 (by decide +kernel) rfl
theorem m_689 : Cond.selects "VaneHouse" ⟨"VaneHouse", "motion", "(II)I"⟩ ⟨"VaneHouse", "motion", "(II)I"⟩ ∈ W0 := w0_of 689 (by decide +kernel) rfl
theorem mv_X6_motion : MV yX6_motion cX6_motion 3 (some .int) 2 := ⟨⟨m_690, m_32, by decide, by decide, by decide⟩, m_688, m_689⟩
theorem m_685 : Cond.static ⟨"VaneHouseLaw", "motion", "(LVaneHouse;II[J)I"⟩ ∈ W0 := w0_of 685 (by decide +kernel) rfl
theorem m_695 : Cond.methodLink "VaneHouseLaw" 53 ⟨"VaneHouse", "stand", "(II)I"⟩ ∈ W0 := w0_of 695 (by decide +kernel) rfl
theorem m_698 : Cond.code ⟨"VaneHouse", "stand", "(II)I"⟩ prog_1_method_13_code 3 (some .int) ∈ W0 := w0_of 698 (by decide +kernel) rfl
theorem m_696 : Cond.instanceMethod ⟨"VaneHouse", "stand", "(II)I"⟩ ∈ W0 := w0_of 696 (by decide +kernel) rfl
theorem m_697 : Cond.selects "VaneHouse" ⟨"VaneHouse", "stand", "(II)I"⟩ ⟨"VaneHouse", "stand", "(II)I"⟩ ∈ W0 := w0_of 697 (by decide +kernel) rfl
theorem mv_X6_stand : MV yX6_stand cX6_stand 3 (some .int) 2 := ⟨⟨m_698, m_32, by decide, by decide, by decide⟩, m_696, m_697⟩
theorem m_693 : Cond.static ⟨"VaneHouseLaw", "stand", "(LVaneHouse;II[J)I"⟩ ∈ W0 := w0_of 693 (by decide +kernel) rfl
theorem m_703 : Cond.methodLink "VaneHouseLaw" 56 ⟨"VaneHouse", "pass", "(I)I"⟩ ∈ W0 := w0_of 703 (by decide +kernel) rfl
theorem m_706 : Cond.code ⟨"VaneHouse", "pass", "(I)I"⟩ prog_1_method_14_code 4 (some .int) ∈ W0 := w0_of 706 (by decide +kernel) rfl
theorem m_704 : Cond.instanceMethod ⟨"VaneHouse", "pass", "(I)I"⟩ ∈ W0 := w0_of 704 (by decide +kernel) rfl
theorem m_705 : Cond.selects "VaneHouse" ⟨"VaneHouse", "pass", "(I)I"⟩ ⟨"VaneHouse", "pass", "(I)I"⟩ ∈ W0 := w0_of 705 (by decide +kernel) rfl
theorem mv_X6_pass : MV yX6_pass cX6_pass 4 (some .int) 1 := ⟨⟨m_706, m_32, by decide, by decide, by decide⟩, m_704, m_705⟩
theorem m_701 : Cond.static ⟨"VaneHouseLaw", "pass", "(LVaneHouse;I[J)I"⟩ ∈ W0 := w0_of 701 (by decide +kernel) rfl
theorem m_772 : Cond.methodLink "VaneHouseLaw" 59 ⟨"VaneHouse", "count", "(I)I"⟩ ∈ W0 := w0_of 772 (by decide +kernel) rfl
theorem m_775 : Cond.code ⟨"VaneHouse", "count", "(I)I"⟩ prog_1_method_15_code 2 (some .int) ∈ W0 := w0_of 775 (by decide +kernel) rfl
theorem m_773 : Cond.instanceMethod ⟨"VaneHouse", "count", "(I)I"⟩ ∈ W0 := w0_of 773 (by decide +kernel) rfl
theorem m_774 : Cond.selects "VaneHouse" ⟨"VaneHouse", "count", "(I)I"⟩ ⟨"VaneHouse", "count", "(I)I"⟩ ∈ W0 := w0_of 774 (by decide +kernel) rfl
theorem mv_X6_count : MV yX6_count cX6_count 2 (some .int) 1 := ⟨⟨m_775, m_32, by decide, by decide, by decide⟩, m_773, m_774⟩
theorem m_770 : Cond.static ⟨"VaneHouseLaw", "count", "(LVaneHouse;I[J)I"⟩ ∈ W0 := w0_of 770 (by decide +kernel) rfl
theorem m_780 : Cond.methodLink "VaneHouseLaw" 62 ⟨"VaneHouse", "party", "(II)I"⟩ ∈ W0 := w0_of 780 (by decide +kernel) rfl
theorem m_783 : Cond.code ⟨"VaneHouse", "party", "(II)I"⟩ prog_1_method_16_code 4 (some .int) ∈ W0 := w0_of 783 (by decide +kernel) rfl
theorem m_781 : Cond.instanceMethod ⟨"VaneHouse", "party", "(II)I"⟩ ∈ W0 := w0_of 781 (by decide +kernel) rfl
theorem m_782 : Cond.selects "VaneHouse" ⟨"VaneHouse", "party", "(II)I"⟩ ⟨"VaneHouse", "party", "(II)I"⟩ ∈ W0 := w0_of 782 (by decide +kernel) rfl
theorem mv_X6_party : MV yX6_party cX6_party 4 (some .int) 2 := ⟨⟨m_783, m_32, by decide, by decide, by decide⟩, m_781, m_782⟩
theorem m_778 : Cond.static ⟨"VaneHouseLaw", "party", "(LVaneHouse;II[J)I"⟩ ∈ W0 := w0_of 778 (by decide +kernel) rfl
theorem m_793 : Cond.methodLink "VaneHouseLaw" 65 ⟨"VaneHouse", "foresee", "(II)I"⟩ ∈ W0 := w0_of 793 (by decide +kernel) rfl
theorem m_796 : Cond.code ⟨"VaneHouse", "foresee", "(II)I"⟩ prog_1_method_18_code 4 (some .int) ∈ W0 := w0_of 796 (by decide +kernel) rfl
theorem m_794 : Cond.instanceMethod ⟨"VaneHouse", "foresee", "(II)I"⟩ ∈ W0 := w0_of 794 (by decide +kernel) rfl
theorem m_795 : Cond.selects "VaneHouse" ⟨"VaneHouse", "foresee", "(II)I"⟩ ⟨"VaneHouse", "foresee", "(II)I"⟩ ∈ W0 := w0_of 795 (by decide +kernel) rfl
theorem mv_X6_foresee : MV yX6_foresee cX6_foresee 4 (some .int) 2 := ⟨⟨m_796, m_32, by decide, by decide, by decide⟩, m_794, m_795⟩
theorem m_791 : Cond.static ⟨"VaneHouseLaw", "foresee", "(LVaneHouse;II[J)I"⟩ ∈ W0 := w0_of 791 (by decide +kernel) rfl
theorem m_812 : Cond.methodLink "VaneHouseLaw" 68 ⟨"VaneHouse", "passes", "(II)I"⟩ ∈ W0 := w0_of 812 (by decide +kernel) rfl
theorem m_815 : Cond.code ⟨"VaneHouse", "passes", "(II)I"⟩ prog_1_method_19_code 4 (some .int) ∈ W0 := w0_of 815 (by decide +kernel) rfl
theorem m_813 : Cond.instanceMethod ⟨"VaneHouse", "passes", "(II)I"⟩ ∈ W0 := w0_of 813 (by decide +kernel) rfl
theorem m_814 : Cond.selects "VaneHouse" ⟨"VaneHouse", "passes", "(II)I"⟩ ⟨"VaneHouse", "passes", "(II)I"⟩ ∈ W0 := w0_of 814 (by decide +kernel) rfl
theorem mv_X6_passes : MV yX6_passes cX6_passes 4 (some .int) 2 := ⟨⟨m_815, m_32, by decide, by decide, by decide⟩, m_813, m_814⟩
theorem m_810 : Cond.static ⟨"VaneHouseLaw", "passes", "(LVaneHouse;II[J)I"⟩ ∈ W0 := w0_of 810 (by decide +kernel) rfl
theorem m_823 : Cond.methodLink "VaneHouseLaw" 71 ⟨"VaneHouse", "advise", "(II)I"⟩ ∈ W0 := w0_of 823 (by decide +kernel) rfl
theorem m_826 : Cond.code ⟨"VaneHouse", "advise", "(II)I"⟩ prog_1_method_20_code 7 (some .int) ∈ W0 := w0_of 826 (by decide +kernel) rfl
theorem m_824 : Cond.instanceMethod ⟨"VaneHouse", "advise", "(II)I"⟩ ∈ W0 := w0_of 824 (by decide +kernel) rfl
theorem m_825 : Cond.selects "VaneHouse" ⟨"VaneHouse", "advise", "(II)I"⟩ ⟨"VaneHouse", "advise", "(II)I"⟩ ∈ W0 := w0_of 825 (by decide +kernel) rfl
theorem mv_X6_advise : MV yX6_advise cX6_advise 7 (some .int) 2 := ⟨⟨m_826, m_32, by decide, by decide, by decide⟩, m_824, m_825⟩
theorem m_821 : Cond.static ⟨"VaneHouseLaw", "advise", "(LVaneHouse;II[J)I"⟩ ∈ W0 := w0_of 821 (by decide +kernel) rfl
theorem cwm_L_beginWind : Cond.codeWith yL_beginWind cL_beginWind 6 (some .int) [(0, 12, 15, 13)] ∈ W0 := w0_of 349 (by decide +kernel) rfl
theorem cwm_L_addWind : Cond.codeWith yL_addWind cL_addWind 6 (some .int) [(0, 12, 15, 13), (0, 12, 19, 18)] ∈ W0 := w0_of 435 (by decide +kernel) rfl
theorem cwm_L_wind : Cond.codeWith yL_wind cL_wind 5 (some .int) [(0, 10, 13, 13), (0, 10, 17, 24)] ∈ W0 := w0_of 459 (by decide +kernel) rfl
theorem cwm_L_setUp : Cond.codeWith yL_setUp cL_setUp 9 (some .int) [(0, 18, 21, 13), (0, 18, 25, 18)] ∈ W0 := w0_of 484 (by decide +kernel) rfl
theorem cwm_L_oil : Cond.codeWith yL_oil cL_oil 4 (some .int) [(0, 9, 12, 24)] ∈ W0 := w0_of 579 (by decide +kernel) rfl
theorem cwm_L_turn : Cond.codeWith yL_turn cL_turn 5 (some .int) [(0, 10, 13, 24), (0, 10, 17, 13), (0, 10, 21, 18)] ∈ W0 := w0_of 595 (by decide +kernel) rfl
theorem cwm_L_vane : Cond.codeWith yL_vane cL_vane 5 (some .int) [(0, 10, 13, 24)] ∈ W0 := w0_of 604 (by decide +kernel) rfl
theorem cwm_L_difference : Cond.codeWith yL_difference cL_difference 5 (some .int) [(0, 10, 13, 13)] ∈ W0 := w0_of 612 (by decide +kernel) rfl
theorem cwm_L_move : Cond.codeWith yL_move cL_move 7 (some .int) [(0, 14, 17, 13), (0, 14, 21, 18)] ∈ W0 := w0_of 619 (by decide +kernel) rfl
theorem cwm_L_put : Cond.codeWith yL_put cL_put 5 (some .int) [(0, 10, 13, 24), (0, 10, 17, 13), (0, 10, 21, 18)] ∈ W0 := w0_of 658 (by decide +kernel) rfl
theorem cwm_L_motion : Cond.codeWith yL_motion cL_motion 5 (some .int) [(0, 10, 13, 24)] ∈ W0 := w0_of 686 (by decide +kernel) rfl
theorem cwm_L_stand : Cond.codeWith yL_stand cL_stand 5 (some .int) [(0, 10, 13, 24)] ∈ W0 := w0_of 694 (by decide +kernel) rfl
theorem cwm_L_pass : Cond.codeWith yL_pass cL_pass 4 (some .int) [(0, 9, 12, 13), (0, 9, 15, 18)] ∈ W0 := w0_of 702 (by decide +kernel) rfl
theorem cwm_L_count : Cond.codeWith yL_count cL_count 4 (some .int) [(0, 9, 12, 24)] ∈ W0 := w0_of 771 (by decide +kernel) rfl
theorem cwm_L_party : Cond.codeWith yL_party cL_party 5 (some .int) [(0, 10, 13, 24)] ∈ W0 := w0_of 779 (by decide +kernel) rfl
theorem cwm_L_foresee : Cond.codeWith yL_foresee cL_foresee 5 (some .int) [(0, 10, 13, 24), (0, 10, 17, 13), (0, 10, 21, 18)] ∈ W0 := w0_of 792 (by decide +kernel) rfl
theorem cwm_L_passes : Cond.codeWith yL_passes cL_passes 5 (some .int) [(0, 10, 13, 24), (0, 10, 17, 13), (0, 10, 21, 18)] ∈ W0 := w0_of 811 (by decide +kernel) rfl
theorem cwm_L_advise : Cond.codeWith yL_advise cL_advise 5 (some .int) [(0, 10, 13, 24), (0, 10, 17, 13), (0, 10, 21, 18)] ∈ W0 := w0_of 822 (by decide +kernel) rfl
section PRW2
variable {G : GE} {p : Program} {l : Launch} {e : Env} {R : Room} {s : State} {m : MethodId} {args : Array Value} {below : List Frame} {meth : Method} {c : Code} {H : Heap} {locs : List Loc} {cells slots : Nat} {Q : State → Prop}
variable {cc : ByteArray} {nL : Nat} {own nm : String} {ret : Option FieldType} {pc : Nat} {ls : Array Slot} {st rest : List Value} {h h1 h2 : PH} {β : Type} {Rr : β}
variable {y : MethodName} {bytes : ByteArray} {maxL index : Nat} {rm : Room} {b : Nat} {As : List Value} {o : Sum Int32 String} {cd : String → Int32}
theorem p_cX (X : Cx G p s m args meth c cc nL own nm ret) (hH : Hx G s h H locs) (hM : Xt l y bytes maxL rm G (.ref b :: As) h o h1) (hm : MV y bytes maxL (some .int) As.length) (hk : Cond.methodLink own index y ∈ W0) {ci N : Nat} {T : u_T} (hci : vwCl[ci]? = some (y.cls, T, N)) {u : Unit} (hr : isC ci h b = some u)
    (hR : rm.frames + 1 ≤ R.frames ∧ 8 + (maxL + 11) + rm.locals ≤ R.locals) (hst : st = As.reverse ++ .ref b :: rest) (hls : ls.size = nL) (hW : (rest.map fun v => v.category).sum ≤ 8) (hdg : decode cc pc = .ok (.invokevirtual index, 3)) {c2 s2 : Nat} (hf : cells + rm.cells ≤ c2 ∧ c2 ≤ R.cells ∧ slots + rm.slots ≤ s2 ∧ s2 ≤ R.slots)
    (kr : ∀ (r : Int32) (H' : Heap) (locs' : List Loc), o = .inl r → Hx G s h1 H' locs' → W p l e R s m args below meth c H' locs' c2 s2 Q (F0 m (pc + 3) ls (.int r :: rest)))
    (kx : ∀ (E : String) (ce : Cell) (q9 : Addr) (H' : Heap) (locs' : List Loc) (sz : Nat), o = .inr E → Hx G s (sz, h1.2) H' locs' → H'[q9]? = some ce → ce.vm = .none → s.vm.findClass E = some ce.cls → vx_W p l e R s m args below meth c H' locs' c2 s2 Q (F0 m pc ls rest) q9) : W p l e R s m args below meth c H locs cells slots Q (F0 m pc ls st) := by
  obtain ⟨hx, hb, hml, hown, hts, hE, -⟩ := id X
  obtain ⟨fs, hq⟩ := isC_spec hr
  obtain ⟨hmb, hin, hse⟩ := hm
  have hpre : PreV s H y.cls b (va_Pc (.ref b :: As) (fun U => Hd G h U.heap ∧ EvG G U)) As := ⟨ct_blind, va_recv hE.1 (hH.1.P1 hq) (q0 := 0) (ci := ci) (fs := fs) hci rfl, fun U hU hWm => ⟨rfl, by rw [hU]; exact hH.1, EvG.warm hWm hE⟩⟩
  have hr2 := vx_runV (e := e) (below := below) (meth := meth) (locs := locs) (cells := cells) (slots := slots) (g := F0 m pc ls st) (C := y.cls) (rm := rm) ⟨hx, hb, hml, hown, hts⟩ hM ⟨callB_of As.length hts (mb_good hmb) rfl rfl rfl (hts _ hmb.2.1) (hts _ hk) hmb.2.2 hR, hts _ hin, hts _ hse⟩ hpre rfl rfl hls hst (lv_room hW) hdg ⟨Nat.le_trans hf.1 hf.2.1, Nat.le_trans hf.2.2.1 hf.2.2.2⟩
  intro T hT X0
  have hlo : ∀ L : List Loc, (∀ q ∈ L, gA G q.base) → ∀ z ∈ locs ++ L, gB G ≤ z.base := fun L hL z hz => by
    rcases List.mem_append.mp hz with q1 | q1
    · exact hH.2.2 z q1
    · exact hL z q1
  rcases hr2 T hT X0 with ⟨v, st₀, t, T', L, h0, X', hL, e1, e2, ⟨r, ho, hv, hd⟩, go⟩ | ⟨q, st₀, t, T', L, E, ce, h0, X', hL, e1, e2, ⟨ho, sz, hd⟩, hce, hcv, hcl, go⟩
  · cases hv
    obtain ⟨t2, a1, b1⟩ := W.widen hf.1 hf.2.2.1 (kr r T'.heap (locs ++ L) ho ⟨by rw [e1]; exact hd, X'.same.2.1, hlo L hL⟩) T' rfl X'
    exact ⟨t2, go t2 a1, b1⟩
  · obtain ⟨t2, a1, b1⟩ := vx_widen hf.1 hf.2.2.1 (kx E ce q T'.heap (locs ++ L) sz ho ⟨by rw [e1]; exact hd, X'.same.2.1, hlo L hL⟩ (by rw [e1]; exact hce) hcv hcl) T' rfl X'
    exact ⟨t2, go.trans a1, b1⟩
theorem p_catch (X : Cx G p s m args meth c cc nL own nm ret) (pre : List ExceptionTableEntry) (x : ExceptionTableEntry) (suf : List ExceptionTableEntry) (hsplit : c.exceptionTable.toList = pre ++ x :: suf) {E : String}
    (hpass : ∀ z ∈ pre, z.catchType ≠ 0 ∧ ∃ nm : String, Cond.classLink own z.catchType nm ∈ W0 ∧ (E, nm) ∈ ncs) (hcov : covers x pc = true) (h0 : x.catchType ≠ 0) (hl : Cond.classLink own x.catchType E ∈ W0) (hcast : (E, E) ∈ owC) {ce : Cell} {q : Addr} (hcell : H[q]? = some ce) (hv : ce.vm = .none) (hcl : s.vm.findClass E = some ce.cls)
    (kk : W p l e R s m args below meth c H locs cells slots Q (F0 m x.handlerPc ls [.ref q])) : vx_W p l e R s m args below meth c H locs cells slots Q (F0 m pc ls rest) q := by
  obtain ⟨hx, hb, hml, hown, hts, hE, -⟩ := id X
  have hcs : va_Nw (.castable E E) s := hE.2.2.2.2.1 _ (List.mem_append_left _ (List.mem_map.mpr ⟨_, hcast, rfl⟩))
  exact vx_catch hown pre x suf hsplit (fun z hz => by
    obtain ⟨z0, nm2, z1, z2⟩ := hpass z hz
    exact Or.inr ⟨z0, nm2, hts _ z1, hE.2.2.2.2.2.2.2.2 _ z2⟩) hcov h0 (hts _ hl) (va_Nw.use rfl hcs) hcell hv hcl kk
theorem p_wret0 (X : Cx G p s m args meth c cc nL own nm (some .int)) (hH : Hx G s h2 H locs) {r : Int32} {mc ms : Nat} (ho : o = .inl r) (hc : cells ≤ mc) (hs : slots ≤ ms) (hdg : decode cc pc = .ok (.ireturn, 1)) : W p l e R s m args below meth c H locs cells slots (Wq G o h1 h2 cd below args s mc ms) (F0 m pc ls [.int 0]) := by
  obtain ⟨hx, hb, -, -, -, -, hlocks, -, hr, -⟩ := X
  refine W.widen hc hs ?_
  exact W.iret hx hb hr (fun t ht _ => Or.inl ⟨r, ho, rfl, by rw [ht]; exact hH.1⟩) hH.2.2 hdg hlocks
theorem p_wretx (X : Cx G p s m args meth c cc nL own nm (some .int)) {sz : Nat} (hH : Hx G s (sz, h1.2) H locs) {E : String} {k : Int32} {mc ms : Nat} (ho : o = .inr E) (hk : cd E = k) (hc : cells ≤ mc) (hs : slots ≤ ms) (hdg : decode cc pc = .ok (.ireturn, 1)) : W p l e R s m args below meth c H locs cells slots (Wq G o h1 h2 cd below args s mc ms) (F0 m pc ls [.int k]) := by
  obtain ⟨hx, hb, -, -, -, -, hlocks, -, hr, -⟩ := X
  refine W.widen hc hs ?_
  exact W.iret hx hb hr (fun t ht _ => Or.inr ⟨E, ho, by rw [hk], sz, by rw [ht]; exact hH.1⟩) hH.2.2 hdg hlocks
/-- what the tables say of a wrapper -/
def MW (y : MethodName) (bytes : ByteArray) (maxL : Nat) (hh : List (Nat × Nat × Nat × Nat)) (n : Nat) : Prop := Cond.codeWith y bytes maxL (some .int) hh ∈ W0 ∧ Cond.initialized y.cls ∈ W0 ∧ (y.cls ≠ "java/lang/invoke/MethodHandle" ∧ y.cls ≠ "java/lang/invoke/VarHandle" ∧ (parseMethodDescriptor y.desc).map (fun d => d.parameters.length) = some n) ∧ Cond.static y ∈ W0
theorem p_cW {hh : List (Nat × Nat × Nat × Nat)} (X : Cx G p s m args meth c cc nL own nm ret) (hH : Hx G s h H locs) (hM : Wt l y bytes maxL hh rm G As h o h1 h2 cd) (hm : MW y bytes maxL hh As.length) (hk : Cond.methodLink own index y ∈ W0)
    (hR : rm.frames + 1 ≤ R.frames ∧ 8 + (maxL + 11) + rm.locals ≤ R.locals) (hst : st = As.reverse ++ rest) (hls : ls.size = nL) (hW : (rest.map fun v => v.category).sum ≤ 8) (hdg : decode cc pc = .ok (.invokestatic index, 3)) {c2 s2 : Nat} (hf : cells + rm.cells ≤ c2 ∧ c2 ≤ R.cells ∧ slots + rm.slots ≤ s2 ∧ s2 ≤ R.slots)
    (kr : ∀ (r : Int32) (H' : Heap) (locs' : List Loc), o = .inl r → Hx G s h2 H' locs' → W p l e R s m args below meth c H' locs' c2 s2 Q (F0 m (pc + 3) ls (.int 0 :: rest)))
    (kx : ∀ (E : String) (H' : Heap) (locs' : List Loc) (sz : Nat), o = .inr E → Hx G s (sz, h1.2) H' locs' → W p l e R s m args below meth c H' locs' c2 s2 Q (F0 m (pc + 3) ls (.int (cd E) :: rest))) : W p l e R s m args below meth c H locs cells slots Q (F0 m pc ls st) := by
  obtain ⟨hx, hb, hml, hown, hts, hE, -⟩ := id X
  obtain ⟨hco, hini, hd, hstt⟩ := hm
  have hpre : PreS s H (va_Pc As (fun U => Hd G h U.heap ∧ EvG G U)) As := ⟨ct_blind, fun U hU hWm => ⟨rfl, by rw [hU]; exact hH.1, EvG.warm hWm hE⟩⟩
  have hgood : GoodIn W0 (.codeWith y bytes maxL (some .int) hh :: W0) := fun w hw => by
    rcases List.mem_cons.mp hw with rfl | hw
    · exact w0_good _ hco
    · exact w0_good _ hw
  have hr2 := vx_runSW (e := e) (below := below) (meth := meth) (locs := locs) (cells := cells) (slots := slots) (g := F0 m pc ls st) (rm := rm) ⟨hx, hb, hml, hown, hts⟩ hM (vx_cwSW As.length hts (fun w hw => by
    rcases List.mem_append.mp hw with hw | hw
    · rcases List.mem_cons.mp hw with rfl | hw
      · exact w0_good _ hk
      rcases List.mem_cons.mp hw with rfl | hw
      · exact w0_good _ hstt
      rcases List.mem_cons.mp hw with rfl | hw
      · exact w0_good _ hini
      · cases hw
    · exact hgood w hw) rfl rfl rfl hd hR) hpre rfl rfl hls hst (lv_room hW) hdg ⟨Nat.le_trans hf.1 hf.2.1, Nat.le_trans hf.2.2.1 hf.2.2.2⟩
  intro T hT X0
  have hlo : ∀ L : List Loc, (∀ q ∈ L, gA G q.base) → ∀ z ∈ locs ++ L, gB G ≤ z.base := fun L hL z hz => by
    rcases List.mem_append.mp hz with q1 | q1
    · exact hH.2.2 z q1
    · exact hL z q1
  obtain ⟨v, st₀, t, T', L, h0, X', hL, e1, e2, hq, go⟩ := hr2 T hT X0
  rcases hq with ⟨r, ho, hv, hd⟩ | ⟨E, ho, hv, sz, hd⟩
  · cases hv
    obtain ⟨t2, a1, b1⟩ := W.widen hf.1 hf.2.2.1 (kr r T'.heap (locs ++ L) ho ⟨by rw [e1]; exact hd, X'.same.2.1, hlo L hL⟩) T' rfl X'
    exact ⟨t2, go t2 a1, b1⟩
  · cases hv
    obtain ⟨t2, a1, b1⟩ := W.widen hf.1 hf.2.2.1 (kx E T'.heap (locs ++ L) sz ho ⟨by rw [e1]; exact hd, X'.same.2.1, hlo L hL⟩) T' rfl X'
    exact ⟨t2, go t2 a1, b1⟩
end PRW2
abbrev rm_L_beginWind : Room := { frames := 8, cells := 3, slots := 58, locals := 215 }
abbrev cd_L_beginWind : String → Int32 := (fun E => if E = "java/lang/IllegalArgumentException" then 1 else 0)
set_option maxRecDepth 100000 in
set_option maxHeartbeats 4000000 in
theorem c_L_beginWind (l : Launch) (hfl : l.stackTraces = false) (G : GE) (x0 : Nat) (x1 : Int32) (x2 : Int32) (x3 : Int32) (x4 : Nat) (h : PH) (o : Sum Int32 String) (h1 : PH) (hf : f_X6_beginWind G x0 x1 x2 x3 h = some (o, h1)) {u : Unit} (hc : isC 7 h x0 = some u) (h2 : PH) (hout : ∀ r, o = .inl r → aJs h1 x4 (0 : Int32) r.toInt64 = some h2) (hE : ∀ E, o = .inr E → E = "java/lang/IllegalArgumentException") : Wt l yL_beginWind cL_beginWind 6 [(0, 12, 15, 13)] rm_L_beginWind G [.ref x0, .int x1, .int x2, .int x3, .ref x4] h o h1 h2 cd_L_beginWind := by
  refine Wt.of (by decide) (Nat.le_of_ble_eq_true rfl) ?_
  intro p e s m args below meth c ls X hex hH hl
  have hl : lv_has ls 6 [(0, .ref x0), (1, .int x1), (2, .int x2), (3, .int x3), (4, .ref x4)] := hl
  have X : Cx G p s m args meth c cL_beginWind 6 RL "beginWind" (some .int) := X
  have hx := X.1
  have hb := X.2.1
  obtain ⟨H, hHe⟩ : ∃ z, z = s.heap := ⟨_, rfl⟩
  obtain ⟨locs, hLe⟩ : ∃ z, z = ([] : List Loc) := ⟨_, rfl⟩
  rw [← hHe, ← hLe] at hH
  rw [← hHe, ← hLe]
  refine lv_aload hx hb dL_beginWind_0 (lv_at hl 4 rfl) ?_
  refine lv_iconst (v := 0) hx hb dL_beginWind_2 (by decide) ?_
  refine lv_aload_n hx hb dL_beginWind_3 rfl (lv_at hl 0 rfl) ?_
  refine lv_iload_n hx hb dL_beginWind_4 rfl (lv_at hl 1 rfl) ?_
  refine lv_iload_n hx hb dL_beginWind_5 rfl (lv_at hl 2 rfl) ?_
  refine lv_iload_n hx hb dL_beginWind_6 rfl (lv_at hl 3 rfl) ?_
  refine p_cX (As := [.int x1, .int x2, .int x3]) (b := x0) (rest := [.int (0 : Int32), .ref x4]) (ci := 7) X hH (c_X6_beginWind l hfl G x0 x1 x2 x3 h o h1 hf) mv_X6_beginWind m_351 rfl hc (by decide) rfl hl.1 (Nat.le_of_ble_eq_true rfl) dL_beginWind_7 (c2 := 3) (s2 := 58) (by decide) (fun r H locs ho hH => ?_) (fun E ce q9 H locs sz ho hH hcell hcv hcl => ?_)
  · refine lv_i2l (v := r.toInt64) hx hb dL_beginWind_10 rfl ?_
    have hf2 : rd (aJs h1 x4 (0 : Int32) r.toInt64) (fun z => some z) = some h2 := by rw [hout r ho]; rfl
    refine p_last X hH hf2 dL_beginWind_11 (fun h9 H locs hH hf9 => ?_)
    cases hf9
    refine lv_goto (tgt := 19) hx hb dL_beginWind_12 (by decide) ?_
    refine lv_iconst (v := 0) hx hb dL_beginWind_19 (by decide) ?_
    exact p_wret0 X hH ho (by decide) (by decide) dL_beginWind_20
  · rcases hE E ho with rfl
    · refine p_catch X [] ⟨0, 12, 15, 13⟩ [] hex (fun z hz => by cases hz) (by decide) (by decide) m_350 (by decide) hcell hcv hcl ?_
      refine lv_astore (lv' := [(5, .ref q9), (0, .ref x0), (1, .int x1), (2, .int x2), (3, .int x3), (4, .ref x4)]) hx hb dL_beginWind_15 hl (by decide) rfl (fun ls hl => ?_)
      refine lv_iconst (v := 1) hx hb dL_beginWind_17 (by decide) ?_
      exact p_wretx X hH ho (by decide) (by decide) (by decide) dL_beginWind_18
theorem mw_L_beginWind : MW yL_beginWind cL_beginWind 6 [(0, 12, 15, 13)] 5 := ⟨cwm_L_beginWind, m_31, ⟨by decide, by decide, by decide⟩, m_348⟩
abbrev rm_L_addWind : Room := { frames := 8, cells := 3, slots := 58, locals := 214 }
abbrev cd_L_addWind : String → Int32 := (fun E => if E = "java/lang/IllegalArgumentException" then 1 else if E = "java/lang/IllegalStateException" then 2 else 0)
set_option maxRecDepth 100000 in
set_option maxHeartbeats 4000000 in
theorem c_L_addWind (l : Launch) (hfl : l.stackTraces = false) (G : GE) (x0 : Nat) (x1 : Int32) (x2 : Int32) (x3 : Int32) (x4 : Nat) (h : PH) (o : Sum Int32 String) (h1 : PH) (hf : f_X6_addWind G x0 x1 x2 x3 h = some (o, h1)) {u : Unit} (hc : isC 7 h x0 = some u) (h2 : PH) (hout : ∀ r, o = .inl r → aJs h1 x4 (0 : Int32) r.toInt64 = some h2) (hE : ∀ E, o = .inr E → E = "java/lang/IllegalArgumentException" ∨ E = "java/lang/IllegalStateException") : Wt l yL_addWind cL_addWind 6 [(0, 12, 15, 13), (0, 12, 19, 18)] rm_L_addWind G [.ref x0, .int x1, .int x2, .int x3, .ref x4] h o h1 h2 cd_L_addWind := by
  refine Wt.of (by decide) (Nat.le_of_ble_eq_true rfl) ?_
  intro p e s m args below meth c ls X hex hH hl
  have hl : lv_has ls 6 [(0, .ref x0), (1, .int x1), (2, .int x2), (3, .int x3), (4, .ref x4)] := hl
  have X : Cx G p s m args meth c cL_addWind 6 RL "addWind" (some .int) := X
  have hx := X.1
  have hb := X.2.1
  obtain ⟨H, hHe⟩ : ∃ z, z = s.heap := ⟨_, rfl⟩
  obtain ⟨locs, hLe⟩ : ∃ z, z = ([] : List Loc) := ⟨_, rfl⟩
  rw [← hHe, ← hLe] at hH
  rw [← hHe, ← hLe]
  refine lv_aload hx hb dL_addWind_0 (lv_at hl 4 rfl) ?_
  refine lv_iconst (v := 0) hx hb dL_addWind_2 (by decide) ?_
  refine lv_aload_n hx hb dL_addWind_3 rfl (lv_at hl 0 rfl) ?_
  refine lv_iload_n hx hb dL_addWind_4 rfl (lv_at hl 1 rfl) ?_
  refine lv_iload_n hx hb dL_addWind_5 rfl (lv_at hl 2 rfl) ?_
  refine lv_iload_n hx hb dL_addWind_6 rfl (lv_at hl 3 rfl) ?_
  refine p_cX (As := [.int x1, .int x2, .int x3]) (b := x0) (rest := [.int (0 : Int32), .ref x4]) (ci := 7) X hH (c_X6_addWind l hfl G x0 x1 x2 x3 h o h1 hf) mv_X6_addWind m_437 rfl hc (by decide) rfl hl.1 (Nat.le_of_ble_eq_true rfl) dL_addWind_7 (c2 := 3) (s2 := 58) (by decide) (fun r H locs ho hH => ?_) (fun E ce q9 H locs sz ho hH hcell hcv hcl => ?_)
  · refine lv_i2l (v := r.toInt64) hx hb dL_addWind_10 rfl ?_
    have hf2 : rd (aJs h1 x4 (0 : Int32) r.toInt64) (fun z => some z) = some h2 := by rw [hout r ho]; rfl
    refine p_last X hH hf2 dL_addWind_11 (fun h9 H locs hH hf9 => ?_)
    cases hf9
    refine lv_goto (tgt := 23) hx hb dL_addWind_12 (by decide) ?_
    refine lv_iconst (v := 0) hx hb dL_addWind_23 (by decide) ?_
    exact p_wret0 X hH ho (by decide) (by decide) dL_addWind_24
  · rcases hE E ho with rfl | rfl
    · refine p_catch X [] ⟨0, 12, 15, 13⟩ [⟨0, 12, 19, 18⟩] hex (fun z hz => by cases hz) (by decide) (by decide) m_350 (by decide) hcell hcv hcl ?_
      refine lv_astore (lv' := [(5, .ref q9), (0, .ref x0), (1, .int x1), (2, .int x2), (3, .int x3), (4, .ref x4)]) hx hb dL_addWind_15 hl (by decide) rfl (fun ls hl => ?_)
      refine lv_iconst (v := 1) hx hb dL_addWind_17 (by decide) ?_
      exact p_wretx X hH ho (by decide) (by decide) (by decide) dL_addWind_18
    · refine p_catch X [⟨0, 12, 15, 13⟩] ⟨0, 12, 19, 18⟩ [] hex (List.forall_mem_cons.mpr ⟨⟨by decide, "java/lang/IllegalArgumentException", m_350, by decide⟩, fun _ h => absurd h List.not_mem_nil⟩) (by decide) (by decide) m_436 (by decide) hcell hcv hcl ?_
      refine lv_astore (lv' := [(5, .ref q9), (0, .ref x0), (1, .int x1), (2, .int x2), (3, .int x3), (4, .ref x4)]) hx hb dL_addWind_19 hl (by decide) rfl (fun ls hl => ?_)
      refine lv_iconst (v := 2) hx hb dL_addWind_21 (by decide) ?_
      exact p_wretx X hH ho (by decide) (by decide) (by decide) dL_addWind_22
theorem mw_L_addWind : MW yL_addWind cL_addWind 6 [(0, 12, 15, 13), (0, 12, 19, 18)] 5 := ⟨cwm_L_addWind, m_31, ⟨by decide, by decide, by decide⟩, m_434⟩
abbrev rm_L_wind : Room := { frames := 7, cells := 1, slots := 6, locals := 112 }
abbrev cd_L_wind : String → Int32 := (fun E => if E = "java/lang/IllegalArgumentException" then 1 else if E = "java/lang/IndexOutOfBoundsException" then 2 else 0)
set_option maxRecDepth 100000 in
set_option maxHeartbeats 4000000 in
theorem c_L_wind (l : Launch) (hfl : l.stackTraces = false) (G : GE) (x0 : Nat) (x1 : Int32) (x2 : Int32) (x3 : Nat) (h : PH) (o : Sum Int32 String) (h1 : PH) (hf : f_X6_wind G x0 x1 x2 h = some (o, h1)) {u : Unit} (hc : isC 7 h x0 = some u) (h2 : PH) (hout : ∀ r, o = .inl r → aJs h1 x3 (0 : Int32) r.toInt64 = some h2) (hE : ∀ E, o = .inr E → E = "java/lang/IllegalArgumentException" ∨ E = "java/lang/IndexOutOfBoundsException") : Wt l yL_wind cL_wind 5 [(0, 10, 13, 13), (0, 10, 17, 24)] rm_L_wind G [.ref x0, .int x1, .int x2, .ref x3] h o h1 h2 cd_L_wind := by
  refine Wt.of (by decide) (Nat.le_of_ble_eq_true rfl) ?_
  intro p e s m args below meth c ls X hex hH hl
  have hl : lv_has ls 5 [(0, .ref x0), (1, .int x1), (2, .int x2), (3, .ref x3)] := hl
  have X : Cx G p s m args meth c cL_wind 5 RL "wind" (some .int) := X
  have hx := X.1
  have hb := X.2.1
  obtain ⟨H, hHe⟩ : ∃ z, z = s.heap := ⟨_, rfl⟩
  obtain ⟨locs, hLe⟩ : ∃ z, z = ([] : List Loc) := ⟨_, rfl⟩
  rw [← hHe, ← hLe] at hH
  rw [← hHe, ← hLe]
  refine lv_aload_n hx hb dL_wind_0 rfl (lv_at hl 3 rfl) ?_
  refine lv_iconst (v := 0) hx hb dL_wind_1 (by decide) ?_
  refine lv_aload_n hx hb dL_wind_2 rfl (lv_at hl 0 rfl) ?_
  refine lv_iload_n hx hb dL_wind_3 rfl (lv_at hl 1 rfl) ?_
  refine lv_iload_n hx hb dL_wind_4 rfl (lv_at hl 2 rfl) ?_
  refine p_cX (As := [.int x1, .int x2]) (b := x0) (rest := [.int (0 : Int32), .ref x3]) (ci := 7) X hH (c_X6_wind l hfl G x0 x1 x2 h o h1 hf) mv_X6_wind m_461 rfl hc (by decide) rfl hl.1 (Nat.le_of_ble_eq_true rfl) dL_wind_5 (c2 := 1) (s2 := 6) (by decide) (fun r H locs ho hH => ?_) (fun E ce q9 H locs sz ho hH hcell hcv hcl => ?_)
  · refine lv_i2l (v := r.toInt64) hx hb dL_wind_8 rfl ?_
    have hf2 : rd (aJs h1 x3 (0 : Int32) r.toInt64) (fun z => some z) = some h2 := by rw [hout r ho]; rfl
    refine p_last X hH hf2 dL_wind_9 (fun h9 H locs hH hf9 => ?_)
    cases hf9
    refine lv_goto (tgt := 21) hx hb dL_wind_10 (by decide) ?_
    refine lv_iconst (v := 0) hx hb dL_wind_21 (by decide) ?_
    exact p_wret0 X hH ho (by decide) (by decide) dL_wind_22
  · rcases hE E ho with rfl | rfl
    · refine p_catch X [] ⟨0, 10, 13, 13⟩ [⟨0, 10, 17, 24⟩] hex (fun z hz => by cases hz) (by decide) (by decide) m_350 (by decide) hcell hcv hcl ?_
      refine lv_astore (lv' := [(4, .ref q9), (0, .ref x0), (1, .int x1), (2, .int x2), (3, .ref x3)]) hx hb dL_wind_13 hl (by decide) rfl (fun ls hl => ?_)
      refine lv_iconst (v := 1) hx hb dL_wind_15 (by decide) ?_
      exact p_wretx X hH ho (by decide) (by decide) (by decide) dL_wind_16
    · refine p_catch X [⟨0, 10, 13, 13⟩] ⟨0, 10, 17, 24⟩ [] hex (List.forall_mem_cons.mpr ⟨⟨by decide, "java/lang/IllegalArgumentException", m_350, by decide⟩, fun _ h => absurd h List.not_mem_nil⟩) (by decide) (by decide) m_460 (by decide) hcell hcv hcl ?_
      refine lv_astore (lv' := [(4, .ref q9), (0, .ref x0), (1, .int x1), (2, .int x2), (3, .ref x3)]) hx hb dL_wind_17 hl (by decide) rfl (fun ls hl => ?_)
      refine lv_iconst (v := 2) hx hb dL_wind_19 (by decide) ?_
      exact p_wretx X hH ho (by decide) (by decide) (by decide) dL_wind_20
theorem mw_L_wind : MW yL_wind cL_wind 5 [(0, 10, 13, 13), (0, 10, 17, 24)] 4 := ⟨cwm_L_wind, m_31, ⟨by decide, by decide, by decide⟩, m_458⟩
abbrev rm_L_setUp : Room := { frames := 8, cells := 7, slots := 129, locals := 218 }
abbrev cd_L_setUp : String → Int32 := (fun E => if E = "java/lang/IllegalArgumentException" then 1 else if E = "java/lang/IllegalStateException" then 2 else 0)
set_option maxRecDepth 100000 in
set_option maxHeartbeats 4000000 in
theorem c_L_setUp (l : Launch) (hfl : l.stackTraces = false) (G : GE) (x0 : Nat) (x1 : Int32) (x2 : Int32) (x3 : Int32) (x4 : Int32) (x5 : Int32) (x6 : Int32) (x7 : Nat) (h : PH) (o : Sum Int32 String) (h1 : PH) (hf : f_X6_setUp G x0 x1 x2 x3 x4 x5 x6 h = some (o, h1)) {u : Unit} (hc : isC 7 h x0 = some u) (h2 : PH) (hout : ∀ r, o = .inl r → aJs h1 x7 (0 : Int32) r.toInt64 = some h2) (hE : ∀ E, o = .inr E → E = "java/lang/IllegalArgumentException" ∨ E = "java/lang/IllegalStateException") : Wt l yL_setUp cL_setUp 9 [(0, 18, 21, 13), (0, 18, 25, 18)] rm_L_setUp G [.ref x0, .int x1, .int x2, .int x3, .int x4, .int x5, .int x6, .ref x7] h o h1 h2 cd_L_setUp := by
  refine Wt.of (by decide) (Nat.le_of_ble_eq_true rfl) ?_
  intro p e s m args below meth c ls X hex hH hl
  have hl : lv_has ls 9 [(0, .ref x0), (1, .int x1), (2, .int x2), (3, .int x3), (4, .int x4), (5, .int x5), (6, .int x6), (7, .ref x7)] := hl
  have X : Cx G p s m args meth c cL_setUp 9 RL "setUp" (some .int) := X
  have hx := X.1
  have hb := X.2.1
  obtain ⟨H, hHe⟩ : ∃ z, z = s.heap := ⟨_, rfl⟩
  obtain ⟨locs, hLe⟩ : ∃ z, z = ([] : List Loc) := ⟨_, rfl⟩
  rw [← hHe, ← hLe] at hH
  rw [← hHe, ← hLe]
  refine lv_aload hx hb dL_setUp_0 (lv_at hl 7 rfl) ?_
  refine lv_iconst (v := 0) hx hb dL_setUp_2 (by decide) ?_
  refine lv_aload_n hx hb dL_setUp_3 rfl (lv_at hl 0 rfl) ?_
  refine lv_iload_n hx hb dL_setUp_4 rfl (lv_at hl 1 rfl) ?_
  refine lv_iload_n hx hb dL_setUp_5 rfl (lv_at hl 2 rfl) ?_
  refine lv_iload_n hx hb dL_setUp_6 rfl (lv_at hl 3 rfl) ?_
  refine lv_iload hx hb dL_setUp_7 (lv_at hl 4 rfl) ?_
  refine lv_iload hx hb dL_setUp_9 (lv_at hl 5 rfl) ?_
  refine lv_iload hx hb dL_setUp_11 (lv_at hl 6 rfl) ?_
  refine p_cX (As := [.int x1, .int x2, .int x3, .int x4, .int x5, .int x6]) (b := x0) (rest := [.int (0 : Int32), .ref x7]) (ci := 7) X hH (c_X6_setUp l hfl G x0 x1 x2 x3 x4 x5 x6 h o h1 hf) mv_X6_setUp m_485 rfl hc (by decide) rfl hl.1 (Nat.le_of_ble_eq_true rfl) dL_setUp_13 (c2 := 7) (s2 := 129) (by decide) (fun r H locs ho hH => ?_) (fun E ce q9 H locs sz ho hH hcell hcv hcl => ?_)
  · refine lv_i2l (v := r.toInt64) hx hb dL_setUp_16 rfl ?_
    have hf2 : rd (aJs h1 x7 (0 : Int32) r.toInt64) (fun z => some z) = some h2 := by rw [hout r ho]; rfl
    refine p_last X hH hf2 dL_setUp_17 (fun h9 H locs hH hf9 => ?_)
    cases hf9
    refine lv_goto (tgt := 29) hx hb dL_setUp_18 (by decide) ?_
    refine lv_iconst (v := 0) hx hb dL_setUp_29 (by decide) ?_
    exact p_wret0 X hH ho (by decide) (by decide) dL_setUp_30
  · rcases hE E ho with rfl | rfl
    · refine p_catch X [] ⟨0, 18, 21, 13⟩ [⟨0, 18, 25, 18⟩] hex (fun z hz => by cases hz) (by decide) (by decide) m_350 (by decide) hcell hcv hcl ?_
      refine lv_astore (lv' := [(8, .ref q9), (0, .ref x0), (1, .int x1), (2, .int x2), (3, .int x3), (4, .int x4), (5, .int x5), (6, .int x6), (7, .ref x7)]) hx hb dL_setUp_21 hl (by decide) rfl (fun ls hl => ?_)
      refine lv_iconst (v := 1) hx hb dL_setUp_23 (by decide) ?_
      exact p_wretx X hH ho (by decide) (by decide) (by decide) dL_setUp_24
    · refine p_catch X [⟨0, 18, 21, 13⟩] ⟨0, 18, 25, 18⟩ [] hex (List.forall_mem_cons.mpr ⟨⟨by decide, "java/lang/IllegalArgumentException", m_350, by decide⟩, fun _ h => absurd h List.not_mem_nil⟩) (by decide) (by decide) m_436 (by decide) hcell hcv hcl ?_
      refine lv_astore (lv' := [(8, .ref q9), (0, .ref x0), (1, .int x1), (2, .int x2), (3, .int x3), (4, .int x4), (5, .int x5), (6, .int x6), (7, .ref x7)]) hx hb dL_setUp_25 hl (by decide) rfl (fun ls hl => ?_)
      refine lv_iconst (v := 2) hx hb dL_setUp_27 (by decide) ?_
      exact p_wretx X hH ho (by decide) (by decide) (by decide) dL_setUp_28
theorem mw_L_setUp : MW yL_setUp cL_setUp 9 [(0, 18, 21, 13), (0, 18, 25, 18)] 8 := ⟨cwm_L_setUp, m_31, ⟨by decide, by decide, by decide⟩, m_483⟩
abbrev rm_L_oil : Room := { frames := 7, cells := 1, slots := 6, locals := 113 }
abbrev cd_L_oil : String → Int32 := (fun E => if E = "java/lang/IndexOutOfBoundsException" then 1 else 0)
set_option maxRecDepth 100000 in
set_option maxHeartbeats 4000000 in
theorem c_L_oil (l : Launch) (hfl : l.stackTraces = false) (G : GE) (x0 : Nat) (x1 : Int32) (x2 : Nat) (h : PH) (o : Sum Int32 String) (h1 : PH) (hf : f_X6_oil G x0 x1 h = some (o, h1)) {u : Unit} (hc : isC 7 h x0 = some u) (h2 : PH) (hout : ∀ r, o = .inl r → aJs h1 x2 (0 : Int32) r.toInt64 = some h2) (hE : ∀ E, o = .inr E → E = "java/lang/IndexOutOfBoundsException") : Wt l yL_oil cL_oil 4 [(0, 9, 12, 24)] rm_L_oil G [.ref x0, .int x1, .ref x2] h o h1 h2 cd_L_oil := by
  refine Wt.of (by decide) (Nat.le_of_ble_eq_true rfl) ?_
  intro p e s m args below meth c ls X hex hH hl
  have hl : lv_has ls 4 [(0, .ref x0), (1, .int x1), (2, .ref x2)] := hl
  have X : Cx G p s m args meth c cL_oil 4 RL "oil" (some .int) := X
  have hx := X.1
  have hb := X.2.1
  obtain ⟨H, hHe⟩ : ∃ z, z = s.heap := ⟨_, rfl⟩
  obtain ⟨locs, hLe⟩ : ∃ z, z = ([] : List Loc) := ⟨_, rfl⟩
  rw [← hHe, ← hLe] at hH
  rw [← hHe, ← hLe]
  refine lv_aload_n hx hb dL_oil_0 rfl (lv_at hl 2 rfl) ?_
  refine lv_iconst (v := 0) hx hb dL_oil_1 (by decide) ?_
  refine lv_aload_n hx hb dL_oil_2 rfl (lv_at hl 0 rfl) ?_
  refine lv_iload_n hx hb dL_oil_3 rfl (lv_at hl 1 rfl) ?_
  refine p_cX (As := [.int x1]) (b := x0) (rest := [.int (0 : Int32), .ref x2]) (ci := 7) X hH (c_X6_oil l hfl G x0 x1 h o h1 hf) mv_X6_oil m_580 rfl hc (by decide) rfl hl.1 (Nat.le_of_ble_eq_true rfl) dL_oil_4 (c2 := 1) (s2 := 6) (by decide) (fun r H locs ho hH => ?_) (fun E ce q9 H locs sz ho hH hcell hcv hcl => ?_)
  · refine lv_i2l (v := r.toInt64) hx hb dL_oil_7 rfl ?_
    have hf2 : rd (aJs h1 x2 (0 : Int32) r.toInt64) (fun z => some z) = some h2 := by rw [hout r ho]; rfl
    refine p_last X hH hf2 dL_oil_8 (fun h9 H locs hH hf9 => ?_)
    cases hf9
    refine lv_goto (tgt := 15) hx hb dL_oil_9 (by decide) ?_
    refine lv_iconst (v := 0) hx hb dL_oil_15 (by decide) ?_
    exact p_wret0 X hH ho (by decide) (by decide) dL_oil_16
  · rcases hE E ho with rfl
    · refine p_catch X [] ⟨0, 9, 12, 24⟩ [] hex (fun z hz => by cases hz) (by decide) (by decide) m_460 (by decide) hcell hcv hcl ?_
      refine lv_astore_n (lv' := [(3, .ref q9), (0, .ref x0), (1, .int x1), (2, .ref x2)]) hx hb dL_oil_12 rfl hl (by decide) rfl (fun ls hl => ?_)
      refine lv_iconst (v := 1) hx hb dL_oil_13 (by decide) ?_
      exact p_wretx X hH ho (by decide) (by decide) (by decide) dL_oil_14
theorem mw_L_oil : MW yL_oil cL_oil 4 [(0, 9, 12, 24)] 3 := ⟨cwm_L_oil, m_31, ⟨by decide, by decide, by decide⟩, m_578⟩
abbrev rm_L_turn : Room := { frames := 7, cells := 1, slots := 6, locals := 114 }
abbrev cd_L_turn : String → Int32 := (fun E => if E = "java/lang/IndexOutOfBoundsException" then 1 else if E = "java/lang/IllegalArgumentException" then 2 else if E = "java/lang/IllegalStateException" then 3 else 0)
set_option maxRecDepth 100000 in
set_option maxHeartbeats 4000000 in
theorem c_L_turn (l : Launch) (hfl : l.stackTraces = false) (G : GE) (x0 : Nat) (x1 : Int32) (x2 : Int32) (x3 : Nat) (h : PH) (o : Sum Int32 String) (h1 : PH) (hf : f_X6_turn G x0 x1 x2 h = some (o, h1)) {u : Unit} (hc : isC 7 h x0 = some u) (h2 : PH) (hout : ∀ r, o = .inl r → aJs h1 x3 (0 : Int32) r.toInt64 = some h2) (hE : ∀ E, o = .inr E → E = "java/lang/IndexOutOfBoundsException" ∨ E = "java/lang/IllegalArgumentException" ∨ E = "java/lang/IllegalStateException") : Wt l yL_turn cL_turn 5 [(0, 10, 13, 24), (0, 10, 17, 13), (0, 10, 21, 18)] rm_L_turn G [.ref x0, .int x1, .int x2, .ref x3] h o h1 h2 cd_L_turn := by
  refine Wt.of (by decide) (Nat.le_of_ble_eq_true rfl) ?_
  intro p e s m args below meth c ls X hex hH hl
  have hl : lv_has ls 5 [(0, .ref x0), (1, .int x1), (2, .int x2), (3, .ref x3)] := hl
  have X : Cx G p s m args meth c cL_turn 5 RL "turn" (some .int) := X
  have hx := X.1
  have hb := X.2.1
  obtain ⟨H, hHe⟩ : ∃ z, z = s.heap := ⟨_, rfl⟩
  obtain ⟨locs, hLe⟩ : ∃ z, z = ([] : List Loc) := ⟨_, rfl⟩
  rw [← hHe, ← hLe] at hH
  rw [← hHe, ← hLe]
  refine lv_aload_n hx hb dL_turn_0 rfl (lv_at hl 3 rfl) ?_
  refine lv_iconst (v := 0) hx hb dL_turn_1 (by decide) ?_
  refine lv_aload_n hx hb dL_turn_2 rfl (lv_at hl 0 rfl) ?_
  refine lv_iload_n hx hb dL_turn_3 rfl (lv_at hl 1 rfl) ?_
  refine lv_iload_n hx hb dL_turn_4 rfl (lv_at hl 2 rfl) ?_
  refine p_cX (As := [.int x1, .int x2]) (b := x0) (rest := [.int (0 : Int32), .ref x3]) (ci := 7) X hH (c_X6_turn l hfl G x0 x1 x2 h o h1 hf) mv_X6_turn m_596 rfl hc (by decide) rfl hl.1 (Nat.le_of_ble_eq_true rfl) dL_turn_5 (c2 := 1) (s2 := 6) (by decide) (fun r H locs ho hH => ?_) (fun E ce q9 H locs sz ho hH hcell hcv hcl => ?_)
  · refine lv_i2l (v := r.toInt64) hx hb dL_turn_8 rfl ?_
    have hf2 : rd (aJs h1 x3 (0 : Int32) r.toInt64) (fun z => some z) = some h2 := by rw [hout r ho]; rfl
    refine p_last X hH hf2 dL_turn_9 (fun h9 H locs hH hf9 => ?_)
    cases hf9
    refine lv_goto (tgt := 25) hx hb dL_turn_10 (by decide) ?_
    refine lv_iconst (v := 0) hx hb dL_turn_25 (by decide) ?_
    exact p_wret0 X hH ho (by decide) (by decide) dL_turn_26
  · rcases hE E ho with rfl | rfl | rfl
    · refine p_catch X [] ⟨0, 10, 13, 24⟩ [⟨0, 10, 17, 13⟩, ⟨0, 10, 21, 18⟩] hex (fun z hz => by cases hz) (by decide) (by decide) m_460 (by decide) hcell hcv hcl ?_
      refine lv_astore (lv' := [(4, .ref q9), (0, .ref x0), (1, .int x1), (2, .int x2), (3, .ref x3)]) hx hb dL_turn_13 hl (by decide) rfl (fun ls hl => ?_)
      refine lv_iconst (v := 1) hx hb dL_turn_15 (by decide) ?_
      exact p_wretx X hH ho (by decide) (by decide) (by decide) dL_turn_16
    · refine p_catch X [⟨0, 10, 13, 24⟩] ⟨0, 10, 17, 13⟩ [⟨0, 10, 21, 18⟩] hex (List.forall_mem_cons.mpr ⟨⟨by decide, "java/lang/IndexOutOfBoundsException", m_460, by decide⟩, fun _ h => absurd h List.not_mem_nil⟩) (by decide) (by decide) m_350 (by decide) hcell hcv hcl ?_
      refine lv_astore (lv' := [(4, .ref q9), (0, .ref x0), (1, .int x1), (2, .int x2), (3, .ref x3)]) hx hb dL_turn_17 hl (by decide) rfl (fun ls hl => ?_)
      refine lv_iconst (v := 2) hx hb dL_turn_19 (by decide) ?_
      exact p_wretx X hH ho (by decide) (by decide) (by decide) dL_turn_20
    · refine p_catch X [⟨0, 10, 13, 24⟩, ⟨0, 10, 17, 13⟩] ⟨0, 10, 21, 18⟩ [] hex (List.forall_mem_cons.mpr ⟨⟨by decide, "java/lang/IndexOutOfBoundsException", m_460, by decide⟩, (List.forall_mem_cons.mpr ⟨⟨by decide, "java/lang/IllegalArgumentException", m_350, by decide⟩, fun _ h => absurd h List.not_mem_nil⟩)⟩) (by decide) (by decide) m_436 (by decide) hcell hcv hcl ?_
      refine lv_astore (lv' := [(4, .ref q9), (0, .ref x0), (1, .int x1), (2, .int x2), (3, .ref x3)]) hx hb dL_turn_21 hl (by decide) rfl (fun ls hl => ?_)
      refine lv_iconst (v := 3) hx hb dL_turn_23 (by decide) ?_
      exact p_wretx X hH ho (by decide) (by decide) (by decide) dL_turn_24
theorem mw_L_turn : MW yL_turn cL_turn 5 [(0, 10, 13, 24), (0, 10, 17, 13), (0, 10, 21, 18)] 4 := ⟨cwm_L_turn, m_31, ⟨by decide, by decide, by decide⟩, m_594⟩
abbrev rm_L_vane : Room := { frames := 7, cells := 1, slots := 6, locals := 112 }
abbrev cd_L_vane : String → Int32 := (fun E => if E = "java/lang/IndexOutOfBoundsException" then 1 else 0)
set_option maxRecDepth 100000 in
set_option maxHeartbeats 4000000 in
theorem c_L_vane (l : Launch) (hfl : l.stackTraces = false) (G : GE) (x0 : Nat) (x1 : Int32) (x2 : Int32) (x3 : Nat) (h : PH) (o : Sum Int32 String) (h1 : PH) (hf : f_X6_vane G x0 x1 x2 h = some (o, h1)) {u : Unit} (hc : isC 7 h x0 = some u) (h2 : PH) (hout : ∀ r, o = .inl r → aJs h1 x3 (0 : Int32) r.toInt64 = some h2) (hE : ∀ E, o = .inr E → E = "java/lang/IndexOutOfBoundsException") : Wt l yL_vane cL_vane 5 [(0, 10, 13, 24)] rm_L_vane G [.ref x0, .int x1, .int x2, .ref x3] h o h1 h2 cd_L_vane := by
  refine Wt.of (by decide) (Nat.le_of_ble_eq_true rfl) ?_
  intro p e s m args below meth c ls X hex hH hl
  have hl : lv_has ls 5 [(0, .ref x0), (1, .int x1), (2, .int x2), (3, .ref x3)] := hl
  have X : Cx G p s m args meth c cL_vane 5 RL "vane" (some .int) := X
  have hx := X.1
  have hb := X.2.1
  obtain ⟨H, hHe⟩ : ∃ z, z = s.heap := ⟨_, rfl⟩
  obtain ⟨locs, hLe⟩ : ∃ z, z = ([] : List Loc) := ⟨_, rfl⟩
  rw [← hHe, ← hLe] at hH
  rw [← hHe, ← hLe]
  refine lv_aload_n hx hb dL_vane_0 rfl (lv_at hl 3 rfl) ?_
  refine lv_iconst (v := 0) hx hb dL_vane_1 (by decide) ?_
  refine lv_aload_n hx hb dL_vane_2 rfl (lv_at hl 0 rfl) ?_
  refine lv_iload_n hx hb dL_vane_3 rfl (lv_at hl 1 rfl) ?_
  refine lv_iload_n hx hb dL_vane_4 rfl (lv_at hl 2 rfl) ?_
  refine p_cX (As := [.int x1, .int x2]) (b := x0) (rest := [.int (0 : Int32), .ref x3]) (ci := 7) X hH (c_X6_vane l hfl G x0 x1 x2 h o h1 hf) mv_X6_vane m_605 rfl hc (by decide) rfl hl.1 (Nat.le_of_ble_eq_true rfl) dL_vane_5 (c2 := 1) (s2 := 6) (by decide) (fun r H locs ho hH => ?_) (fun E ce q9 H locs sz ho hH hcell hcv hcl => ?_)
  · refine lv_i2l (v := r.toInt64) hx hb dL_vane_8 rfl ?_
    have hf2 : rd (aJs h1 x3 (0 : Int32) r.toInt64) (fun z => some z) = some h2 := by rw [hout r ho]; rfl
    refine p_last X hH hf2 dL_vane_9 (fun h9 H locs hH hf9 => ?_)
    cases hf9
    refine lv_goto (tgt := 17) hx hb dL_vane_10 (by decide) ?_
    refine lv_iconst (v := 0) hx hb dL_vane_17 (by decide) ?_
    exact p_wret0 X hH ho (by decide) (by decide) dL_vane_18
  · rcases hE E ho with rfl
    · refine p_catch X [] ⟨0, 10, 13, 24⟩ [] hex (fun z hz => by cases hz) (by decide) (by decide) m_460 (by decide) hcell hcv hcl ?_
      refine lv_astore (lv' := [(4, .ref q9), (0, .ref x0), (1, .int x1), (2, .int x2), (3, .ref x3)]) hx hb dL_vane_13 hl (by decide) rfl (fun ls hl => ?_)
      refine lv_iconst (v := 1) hx hb dL_vane_15 (by decide) ?_
      exact p_wretx X hH ho (by decide) (by decide) (by decide) dL_vane_16
theorem mw_L_vane : MW yL_vane cL_vane 5 [(0, 10, 13, 24)] 4 := ⟨cwm_L_vane, m_31, ⟨by decide, by decide, by decide⟩, m_603⟩
abbrev rm_L_difference : Room := { frames := 7, cells := 1, slots := 6, locals := 112 }
abbrev cd_L_difference : String → Int32 := (fun E => if E = "java/lang/IllegalArgumentException" then 1 else 0)
set_option maxRecDepth 100000 in
set_option maxHeartbeats 4000000 in
theorem c_L_difference (l : Launch) (hfl : l.stackTraces = false) (G : GE) (x0 : Nat) (x1 : Int32) (x2 : Int32) (x3 : Nat) (h : PH) (o : Sum Int32 String) (h1 : PH) (hf : f_X6_difference G x0 x1 x2 h = some (o, h1)) {u : Unit} (hc : isC 7 h x0 = some u) (h2 : PH) (hout : ∀ r, o = .inl r → aJs h1 x3 (0 : Int32) r.toInt64 = some h2) (hE : ∀ E, o = .inr E → E = "java/lang/IllegalArgumentException") : Wt l yL_difference cL_difference 5 [(0, 10, 13, 13)] rm_L_difference G [.ref x0, .int x1, .int x2, .ref x3] h o h1 h2 cd_L_difference := by
  refine Wt.of (by decide) (Nat.le_of_ble_eq_true rfl) ?_
  intro p e s m args below meth c ls X hex hH hl
  have hl : lv_has ls 5 [(0, .ref x0), (1, .int x1), (2, .int x2), (3, .ref x3)] := hl
  have X : Cx G p s m args meth c cL_difference 5 RL "difference" (some .int) := X
  have hx := X.1
  have hb := X.2.1
  obtain ⟨H, hHe⟩ : ∃ z, z = s.heap := ⟨_, rfl⟩
  obtain ⟨locs, hLe⟩ : ∃ z, z = ([] : List Loc) := ⟨_, rfl⟩
  rw [← hHe, ← hLe] at hH
  rw [← hHe, ← hLe]
  refine lv_aload_n hx hb dL_difference_0 rfl (lv_at hl 3 rfl) ?_
  refine lv_iconst (v := 0) hx hb dL_difference_1 (by decide) ?_
  refine lv_aload_n hx hb dL_difference_2 rfl (lv_at hl 0 rfl) ?_
  refine lv_iload_n hx hb dL_difference_3 rfl (lv_at hl 1 rfl) ?_
  refine lv_iload_n hx hb dL_difference_4 rfl (lv_at hl 2 rfl) ?_
  refine p_cX (As := [.int x1, .int x2]) (b := x0) (rest := [.int (0 : Int32), .ref x3]) (ci := 7) X hH (c_X6_difference l hfl G x0 x1 x2 h o h1 hf) mv_X6_difference m_613 rfl hc (by decide) rfl hl.1 (Nat.le_of_ble_eq_true rfl) dL_difference_5 (c2 := 1) (s2 := 6) (by decide) (fun r H locs ho hH => ?_) (fun E ce q9 H locs sz ho hH hcell hcv hcl => ?_)
  · refine lv_i2l (v := r.toInt64) hx hb dL_difference_8 rfl ?_
    have hf2 : rd (aJs h1 x3 (0 : Int32) r.toInt64) (fun z => some z) = some h2 := by rw [hout r ho]; rfl
    refine p_last X hH hf2 dL_difference_9 (fun h9 H locs hH hf9 => ?_)
    cases hf9
    refine lv_goto (tgt := 17) hx hb dL_difference_10 (by decide) ?_
    refine lv_iconst (v := 0) hx hb dL_difference_17 (by decide) ?_
    exact p_wret0 X hH ho (by decide) (by decide) dL_difference_18
  · rcases hE E ho with rfl
    · refine p_catch X [] ⟨0, 10, 13, 13⟩ [] hex (fun z hz => by cases hz) (by decide) (by decide) m_350 (by decide) hcell hcv hcl ?_
      refine lv_astore (lv' := [(4, .ref q9), (0, .ref x0), (1, .int x1), (2, .int x2), (3, .ref x3)]) hx hb dL_difference_13 hl (by decide) rfl (fun ls hl => ?_)
      refine lv_iconst (v := 1) hx hb dL_difference_15 (by decide) ?_
      exact p_wretx X hH ho (by decide) (by decide) (by decide) dL_difference_16
theorem mw_L_difference : MW yL_difference cL_difference 5 [(0, 10, 13, 13)] 4 := ⟨cwm_L_difference, m_31, ⟨by decide, by decide, by decide⟩, m_611⟩
abbrev rm_L_move : Room := { frames := 8, cells := 3, slots := 61, locals := 216 }
abbrev cd_L_move : String → Int32 := (fun E => if E = "java/lang/IllegalArgumentException" then 1 else if E = "java/lang/IllegalStateException" then 2 else 0)
set_option maxRecDepth 100000 in
set_option maxHeartbeats 4000000 in
theorem c_L_move (l : Launch) (hfl : l.stackTraces = false) (G : GE) (x0 : Nat) (x1 : Int32) (x2 : Int32) (x3 : Int32) (x4 : Int32) (x5 : Nat) (h : PH) (o : Sum Int32 String) (h1 : PH) (hf : f_X6_move G x0 x1 x2 x3 x4 h = some (o, h1)) {u : Unit} (hc : isC 7 h x0 = some u) (h2 : PH) (hout : ∀ r, o = .inl r → aJs h1 x5 (0 : Int32) r.toInt64 = some h2) (hE : ∀ E, o = .inr E → E = "java/lang/IllegalArgumentException" ∨ E = "java/lang/IllegalStateException") : Wt l yL_move cL_move 7 [(0, 14, 17, 13), (0, 14, 21, 18)] rm_L_move G [.ref x0, .int x1, .int x2, .int x3, .int x4, .ref x5] h o h1 h2 cd_L_move := by
  refine Wt.of (by decide) (Nat.le_of_ble_eq_true rfl) ?_
  intro p e s m args below meth c ls X hex hH hl
  have hl : lv_has ls 7 [(0, .ref x0), (1, .int x1), (2, .int x2), (3, .int x3), (4, .int x4), (5, .ref x5)] := hl
  have X : Cx G p s m args meth c cL_move 7 RL "move" (some .int) := X
  have hx := X.1
  have hb := X.2.1
  obtain ⟨H, hHe⟩ : ∃ z, z = s.heap := ⟨_, rfl⟩
  obtain ⟨locs, hLe⟩ : ∃ z, z = ([] : List Loc) := ⟨_, rfl⟩
  rw [← hHe, ← hLe] at hH
  rw [← hHe, ← hLe]
  refine lv_aload hx hb dL_move_0 (lv_at hl 5 rfl) ?_
  refine lv_iconst (v := 0) hx hb dL_move_2 (by decide) ?_
  refine lv_aload_n hx hb dL_move_3 rfl (lv_at hl 0 rfl) ?_
  refine lv_iload_n hx hb dL_move_4 rfl (lv_at hl 1 rfl) ?_
  refine lv_iload_n hx hb dL_move_5 rfl (lv_at hl 2 rfl) ?_
  refine lv_iload_n hx hb dL_move_6 rfl (lv_at hl 3 rfl) ?_
  refine lv_iload hx hb dL_move_7 (lv_at hl 4 rfl) ?_
  refine p_cX (As := [.int x1, .int x2, .int x3, .int x4]) (b := x0) (rest := [.int (0 : Int32), .ref x5]) (ci := 7) X hH (c_X6_move l hfl G x0 x1 x2 x3 x4 h o h1 hf) mv_X6_move m_620 rfl hc (by decide) rfl hl.1 (Nat.le_of_ble_eq_true rfl) dL_move_9 (c2 := 3) (s2 := 61) (by decide) (fun r H locs ho hH => ?_) (fun E ce q9 H locs sz ho hH hcell hcv hcl => ?_)
  · refine lv_i2l (v := r.toInt64) hx hb dL_move_12 rfl ?_
    have hf2 : rd (aJs h1 x5 (0 : Int32) r.toInt64) (fun z => some z) = some h2 := by rw [hout r ho]; rfl
    refine p_last X hH hf2 dL_move_13 (fun h9 H locs hH hf9 => ?_)
    cases hf9
    refine lv_goto (tgt := 25) hx hb dL_move_14 (by decide) ?_
    refine lv_iconst (v := 0) hx hb dL_move_25 (by decide) ?_
    exact p_wret0 X hH ho (by decide) (by decide) dL_move_26
  · rcases hE E ho with rfl | rfl
    · refine p_catch X [] ⟨0, 14, 17, 13⟩ [⟨0, 14, 21, 18⟩] hex (fun z hz => by cases hz) (by decide) (by decide) m_350 (by decide) hcell hcv hcl ?_
      refine lv_astore (lv' := [(6, .ref q9), (0, .ref x0), (1, .int x1), (2, .int x2), (3, .int x3), (4, .int x4), (5, .ref x5)]) hx hb dL_move_17 hl (by decide) rfl (fun ls hl => ?_)
      refine lv_iconst (v := 1) hx hb dL_move_19 (by decide) ?_
      exact p_wretx X hH ho (by decide) (by decide) (by decide) dL_move_20
    · refine p_catch X [⟨0, 14, 17, 13⟩] ⟨0, 14, 21, 18⟩ [] hex (List.forall_mem_cons.mpr ⟨⟨by decide, "java/lang/IllegalArgumentException", m_350, by decide⟩, fun _ h => absurd h List.not_mem_nil⟩) (by decide) (by decide) m_436 (by decide) hcell hcv hcl ?_
      refine lv_astore (lv' := [(6, .ref q9), (0, .ref x0), (1, .int x1), (2, .int x2), (3, .int x3), (4, .int x4), (5, .ref x5)]) hx hb dL_move_21 hl (by decide) rfl (fun ls hl => ?_)
      refine lv_iconst (v := 2) hx hb dL_move_23 (by decide) ?_
      exact p_wretx X hH ho (by decide) (by decide) (by decide) dL_move_24
theorem mw_L_move : MW yL_move cL_move 7 [(0, 14, 17, 13), (0, 14, 21, 18)] 6 := ⟨cwm_L_move, m_31, ⟨by decide, by decide, by decide⟩, m_618⟩
abbrev rm_L_put : Room := { frames := 8, cells := 3, slots := 56, locals := 213 }
abbrev cd_L_put : String → Int32 := (fun E => if E = "java/lang/IndexOutOfBoundsException" then 1 else if E = "java/lang/IllegalArgumentException" then 2 else if E = "java/lang/IllegalStateException" then 3 else 0)
set_option maxRecDepth 100000 in
set_option maxHeartbeats 4000000 in
theorem c_L_put (l : Launch) (hfl : l.stackTraces = false) (G : GE) (x0 : Nat) (x1 : Int32) (x2 : Int32) (x3 : Nat) (h : PH) (o : Sum Int32 String) (h1 : PH) (hf : f_X6_put G x0 x1 x2 h = some (o, h1)) {u : Unit} (hc : isC 7 h x0 = some u) (h2 : PH) (hout : ∀ r, o = .inl r → aJs h1 x3 (0 : Int32) r.toInt64 = some h2) (hE : ∀ E, o = .inr E → E = "java/lang/IndexOutOfBoundsException" ∨ E = "java/lang/IllegalArgumentException" ∨ E = "java/lang/IllegalStateException") : Wt l yL_put cL_put 5 [(0, 10, 13, 24), (0, 10, 17, 13), (0, 10, 21, 18)] rm_L_put G [.ref x0, .int x1, .int x2, .ref x3] h o h1 h2 cd_L_put := by
  refine Wt.of (by decide) (Nat.le_of_ble_eq_true rfl) ?_
  intro p e s m args below meth c ls X hex hH hl
  have hl : lv_has ls 5 [(0, .ref x0), (1, .int x1), (2, .int x2), (3, .ref x3)] := hl
  have X : Cx G p s m args meth c cL_put 5 RL "put" (some .int) := X
  have hx := X.1
  have hb := X.2.1
  obtain ⟨H, hHe⟩ : ∃ z, z = s.heap := ⟨_, rfl⟩
  obtain ⟨locs, hLe⟩ : ∃ z, z = ([] : List Loc) := ⟨_, rfl⟩
  rw [← hHe, ← hLe] at hH
  rw [← hHe, ← hLe]
  refine lv_aload_n hx hb dL_put_0 rfl (lv_at hl 3 rfl) ?_
  refine lv_iconst (v := 0) hx hb dL_put_1 (by decide) ?_
  refine lv_aload_n hx hb dL_put_2 rfl (lv_at hl 0 rfl) ?_
  refine lv_iload_n hx hb dL_put_3 rfl (lv_at hl 1 rfl) ?_
  refine lv_iload_n hx hb dL_put_4 rfl (lv_at hl 2 rfl) ?_
  refine p_cX (As := [.int x1, .int x2]) (b := x0) (rest := [.int (0 : Int32), .ref x3]) (ci := 7) X hH (c_X6_put l hfl G x0 x1 x2 h o h1 hf) mv_X6_put m_659 rfl hc (by decide) rfl hl.1 (Nat.le_of_ble_eq_true rfl) dL_put_5 (c2 := 3) (s2 := 56) (by decide) (fun r H locs ho hH => ?_) (fun E ce q9 H locs sz ho hH hcell hcv hcl => ?_)
  · refine lv_i2l (v := r.toInt64) hx hb dL_put_8 rfl ?_
    have hf2 : rd (aJs h1 x3 (0 : Int32) r.toInt64) (fun z => some z) = some h2 := by rw [hout r ho]; rfl
    refine p_last X hH hf2 dL_put_9 (fun h9 H locs hH hf9 => ?_)
    cases hf9
    refine lv_goto (tgt := 25) hx hb dL_put_10 (by decide) ?_
    refine lv_iconst (v := 0) hx hb dL_put_25 (by decide) ?_
    exact p_wret0 X hH ho (by decide) (by decide) dL_put_26
  · rcases hE E ho with rfl | rfl | rfl
    · refine p_catch X [] ⟨0, 10, 13, 24⟩ [⟨0, 10, 17, 13⟩, ⟨0, 10, 21, 18⟩] hex (fun z hz => by cases hz) (by decide) (by decide) m_460 (by decide) hcell hcv hcl ?_
      refine lv_astore (lv' := [(4, .ref q9), (0, .ref x0), (1, .int x1), (2, .int x2), (3, .ref x3)]) hx hb dL_put_13 hl (by decide) rfl (fun ls hl => ?_)
      refine lv_iconst (v := 1) hx hb dL_put_15 (by decide) ?_
      exact p_wretx X hH ho (by decide) (by decide) (by decide) dL_put_16
    · refine p_catch X [⟨0, 10, 13, 24⟩] ⟨0, 10, 17, 13⟩ [⟨0, 10, 21, 18⟩] hex (List.forall_mem_cons.mpr ⟨⟨by decide, "java/lang/IndexOutOfBoundsException", m_460, by decide⟩, fun _ h => absurd h List.not_mem_nil⟩) (by decide) (by decide) m_350 (by decide) hcell hcv hcl ?_
      refine lv_astore (lv' := [(4, .ref q9), (0, .ref x0), (1, .int x1), (2, .int x2), (3, .ref x3)]) hx hb dL_put_17 hl (by decide) rfl (fun ls hl => ?_)
      refine lv_iconst (v := 2) hx hb dL_put_19 (by decide) ?_
      exact p_wretx X hH ho (by decide) (by decide) (by decide) dL_put_20
    · refine p_catch X [⟨0, 10, 13, 24⟩, ⟨0, 10, 17, 13⟩] ⟨0, 10, 21, 18⟩ [] hex (List.forall_mem_cons.mpr ⟨⟨by decide, "java/lang/IndexOutOfBoundsException", m_460, by decide⟩, (List.forall_mem_cons.mpr ⟨⟨by decide, "java/lang/IllegalArgumentException", m_350, by decide⟩, fun _ h => absurd h List.not_mem_nil⟩)⟩) (by decide) (by decide) m_436 (by decide) hcell hcv hcl ?_
      refine lv_astore (lv' := [(4, .ref q9), (0, .ref x0), (1, .int x1), (2, .int x2), (3, .ref x3)]) hx hb dL_put_21 hl (by decide) rfl (fun ls hl => ?_)
      refine lv_iconst (v := 3) hx hb dL_put_23 (by decide) ?_
      exact p_wretx X hH ho (by decide) (by decide) (by decide) dL_put_24
theorem mw_L_put : MW yL_put cL_put 5 [(0, 10, 13, 24), (0, 10, 17, 13), (0, 10, 21, 18)] 4 := ⟨cwm_L_put, m_31, ⟨by decide, by decide, by decide⟩, m_657⟩
abbrev rm_L_motion : Room := { frames := 7, cells := 1, slots := 6, locals := 133 }
abbrev cd_L_motion : String → Int32 := (fun E => if E = "java/lang/IndexOutOfBoundsException" then 1 else 0)
set_option maxRecDepth 100000 in
set_option maxHeartbeats 4000000 in
theorem c_L_motion (l : Launch) (hfl : l.stackTraces = false) (G : GE) (x0 : Nat) (x1 : Int32) (x2 : Int32) (x3 : Nat) (h : PH) (o : Sum Int32 String) (h1 : PH) (hf : f_X6_motion G x0 x1 x2 h = some (o, h1)) {u : Unit} (hc : isC 7 h x0 = some u) (h2 : PH) (hout : ∀ r, o = .inl r → aJs h1 x3 (0 : Int32) r.toInt64 = some h2) (hE : ∀ E, o = .inr E → E = "java/lang/IndexOutOfBoundsException") : Wt l yL_motion cL_motion 5 [(0, 10, 13, 24)] rm_L_motion G [.ref x0, .int x1, .int x2, .ref x3] h o h1 h2 cd_L_motion := by
  refine Wt.of (by decide) (Nat.le_of_ble_eq_true rfl) ?_
  intro p e s m args below meth c ls X hex hH hl
  have hl : lv_has ls 5 [(0, .ref x0), (1, .int x1), (2, .int x2), (3, .ref x3)] := hl
  have X : Cx G p s m args meth c cL_motion 5 RL "motion" (some .int) := X
  have hx := X.1
  have hb := X.2.1
  obtain ⟨H, hHe⟩ : ∃ z, z = s.heap := ⟨_, rfl⟩
  obtain ⟨locs, hLe⟩ : ∃ z, z = ([] : List Loc) := ⟨_, rfl⟩
  rw [← hHe, ← hLe] at hH
  rw [← hHe, ← hLe]
  refine lv_aload_n hx hb dL_motion_0 rfl (lv_at hl 3 rfl) ?_
  refine lv_iconst (v := 0) hx hb dL_motion_1 (by decide) ?_
  refine lv_aload_n hx hb dL_motion_2 rfl (lv_at hl 0 rfl) ?_
  refine lv_iload_n hx hb dL_motion_3 rfl (lv_at hl 1 rfl) ?_
  refine lv_iload_n hx hb dL_motion_4 rfl (lv_at hl 2 rfl) ?_
  refine p_cX (As := [.int x1, .int x2]) (b := x0) (rest := [.int (0 : Int32), .ref x3]) (ci := 7) X hH (c_X6_motion l hfl G x0 x1 x2 h o h1 hf) mv_X6_motion m_687 rfl hc (by decide) rfl hl.1 (Nat.le_of_ble_eq_true rfl) dL_motion_5 (c2 := 1) (s2 := 6) (by decide) (fun r H locs ho hH => ?_) (fun E ce q9 H locs sz ho hH hcell hcv hcl => ?_)
  · refine lv_i2l (v := r.toInt64) hx hb dL_motion_8 rfl ?_
    have hf2 : rd (aJs h1 x3 (0 : Int32) r.toInt64) (fun z => some z) = some h2 := by rw [hout r ho]; rfl
    refine p_last X hH hf2 dL_motion_9 (fun h9 H locs hH hf9 => ?_)
    cases hf9
    refine lv_goto (tgt := 17) hx hb dL_motion_10 (by decide) ?_
    refine lv_iconst (v := 0) hx hb dL_motion_17 (by decide) ?_
    exact p_wret0 X hH ho (by decide) (by decide) dL_motion_18
  · rcases hE E ho with rfl
    · refine p_catch X [] ⟨0, 10, 13, 24⟩ [] hex (fun z hz => by cases hz) (by decide) (by decide) m_460 (by decide) hcell hcv hcl ?_
      refine lv_astore (lv' := [(4, .ref q9), (0, .ref x0), (1, .int x1), (2, .int x2), (3, .ref x3)]) hx hb dL_motion_13 hl (by decide) rfl (fun ls hl => ?_)
      refine lv_iconst (v := 1) hx hb dL_motion_15 (by decide) ?_
      exact p_wretx X hH ho (by decide) (by decide) (by decide) dL_motion_16
theorem mw_L_motion : MW yL_motion cL_motion 5 [(0, 10, 13, 24)] 4 := ⟨cwm_L_motion, m_31, ⟨by decide, by decide, by decide⟩, m_685⟩
abbrev rm_L_stand : Room := { frames := 7, cells := 1, slots := 6, locals := 112 }
abbrev cd_L_stand : String → Int32 := (fun E => if E = "java/lang/IndexOutOfBoundsException" then 1 else 0)
set_option maxRecDepth 100000 in
set_option maxHeartbeats 4000000 in
theorem c_L_stand (l : Launch) (hfl : l.stackTraces = false) (G : GE) (x0 : Nat) (x1 : Int32) (x2 : Int32) (x3 : Nat) (h : PH) (o : Sum Int32 String) (h1 : PH) (hf : f_X6_stand G x0 x1 x2 h = some (o, h1)) {u : Unit} (hc : isC 7 h x0 = some u) (h2 : PH) (hout : ∀ r, o = .inl r → aJs h1 x3 (0 : Int32) r.toInt64 = some h2) (hE : ∀ E, o = .inr E → E = "java/lang/IndexOutOfBoundsException") : Wt l yL_stand cL_stand 5 [(0, 10, 13, 24)] rm_L_stand G [.ref x0, .int x1, .int x2, .ref x3] h o h1 h2 cd_L_stand := by
  refine Wt.of (by decide) (Nat.le_of_ble_eq_true rfl) ?_
  intro p e s m args below meth c ls X hex hH hl
  have hl : lv_has ls 5 [(0, .ref x0), (1, .int x1), (2, .int x2), (3, .ref x3)] := hl
  have X : Cx G p s m args meth c cL_stand 5 RL "stand" (some .int) := X
  have hx := X.1
  have hb := X.2.1
  obtain ⟨H, hHe⟩ : ∃ z, z = s.heap := ⟨_, rfl⟩
  obtain ⟨locs, hLe⟩ : ∃ z, z = ([] : List Loc) := ⟨_, rfl⟩
  rw [← hHe, ← hLe] at hH
  rw [← hHe, ← hLe]
  refine lv_aload_n hx hb dL_stand_0 rfl (lv_at hl 3 rfl) ?_
  refine lv_iconst (v := 0) hx hb dL_stand_1 (by decide) ?_
  refine lv_aload_n hx hb dL_stand_2 rfl (lv_at hl 0 rfl) ?_
  refine lv_iload_n hx hb dL_stand_3 rfl (lv_at hl 1 rfl) ?_
  refine lv_iload_n hx hb dL_stand_4 rfl (lv_at hl 2 rfl) ?_
  refine p_cX (As := [.int x1, .int x2]) (b := x0) (rest := [.int (0 : Int32), .ref x3]) (ci := 7) X hH (c_X6_stand l hfl G x0 x1 x2 h o h1 hf) mv_X6_stand m_695 rfl hc (by decide) rfl hl.1 (Nat.le_of_ble_eq_true rfl) dL_stand_5 (c2 := 1) (s2 := 6) (by decide) (fun r H locs ho hH => ?_) (fun E ce q9 H locs sz ho hH hcell hcv hcl => ?_)
  · refine lv_i2l (v := r.toInt64) hx hb dL_stand_8 rfl ?_
    have hf2 : rd (aJs h1 x3 (0 : Int32) r.toInt64) (fun z => some z) = some h2 := by rw [hout r ho]; rfl
    refine p_last X hH hf2 dL_stand_9 (fun h9 H locs hH hf9 => ?_)
    cases hf9
    refine lv_goto (tgt := 17) hx hb dL_stand_10 (by decide) ?_
    refine lv_iconst (v := 0) hx hb dL_stand_17 (by decide) ?_
    exact p_wret0 X hH ho (by decide) (by decide) dL_stand_18
  · rcases hE E ho with rfl
    · refine p_catch X [] ⟨0, 10, 13, 24⟩ [] hex (fun z hz => by cases hz) (by decide) (by decide) m_460 (by decide) hcell hcv hcl ?_
      refine lv_astore (lv' := [(4, .ref q9), (0, .ref x0), (1, .int x1), (2, .int x2), (3, .ref x3)]) hx hb dL_stand_13 hl (by decide) rfl (fun ls hl => ?_)
      refine lv_iconst (v := 1) hx hb dL_stand_15 (by decide) ?_
      exact p_wretx X hH ho (by decide) (by decide) (by decide) dL_stand_16
theorem mw_L_stand : MW yL_stand cL_stand 5 [(0, 10, 13, 24)] 4 := ⟨cwm_L_stand, m_31, ⟨by decide, by decide, by decide⟩, m_693⟩
abbrev rm_L_pass : Room := { frames := 7, cells := 1, slots := 6, locals := 150 }
abbrev cd_L_pass : String → Int32 := (fun E => if E = "java/lang/IllegalArgumentException" then 1 else if E = "java/lang/IllegalStateException" then 2 else 0)
set_option maxRecDepth 100000 in
set_option maxHeartbeats 4000000 in
theorem c_L_pass (l : Launch) (hfl : l.stackTraces = false) (G : GE) (x0 : Nat) (x1 : Int32) (x2 : Nat) (h : PH) (o : Sum Int32 String) (h1 : PH) (hf : f_X6_pass G x0 x1 h = some (o, h1)) {u : Unit} (hc : isC 7 h x0 = some u) (h2 : PH) (hout : ∀ r, o = .inl r → aJs h1 x2 (0 : Int32) r.toInt64 = some h2) (hE : ∀ E, o = .inr E → E = "java/lang/IllegalArgumentException" ∨ E = "java/lang/IllegalStateException") : Wt l yL_pass cL_pass 4 [(0, 9, 12, 13), (0, 9, 15, 18)] rm_L_pass G [.ref x0, .int x1, .ref x2] h o h1 h2 cd_L_pass := by
  refine Wt.of (by decide) (Nat.le_of_ble_eq_true rfl) ?_
  intro p e s m args below meth c ls X hex hH hl
  have hl : lv_has ls 4 [(0, .ref x0), (1, .int x1), (2, .ref x2)] := hl
  have X : Cx G p s m args meth c cL_pass 4 RL "pass" (some .int) := X
  have hx := X.1
  have hb := X.2.1
  obtain ⟨H, hHe⟩ : ∃ z, z = s.heap := ⟨_, rfl⟩
  obtain ⟨locs, hLe⟩ : ∃ z, z = ([] : List Loc) := ⟨_, rfl⟩
  rw [← hHe, ← hLe] at hH
  rw [← hHe, ← hLe]
  refine lv_aload_n hx hb dL_pass_0 rfl (lv_at hl 2 rfl) ?_
  refine lv_iconst (v := 0) hx hb dL_pass_1 (by decide) ?_
  refine lv_aload_n hx hb dL_pass_2 rfl (lv_at hl 0 rfl) ?_
  refine lv_iload_n hx hb dL_pass_3 rfl (lv_at hl 1 rfl) ?_
  refine p_cX (As := [.int x1]) (b := x0) (rest := [.int (0 : Int32), .ref x2]) (ci := 7) X hH (c_X6_pass l hfl G x0 x1 h o h1 hf) mv_X6_pass m_703 rfl hc (by decide) rfl hl.1 (Nat.le_of_ble_eq_true rfl) dL_pass_4 (c2 := 1) (s2 := 6) (by decide) (fun r H locs ho hH => ?_) (fun E ce q9 H locs sz ho hH hcell hcv hcl => ?_)
  · refine lv_i2l (v := r.toInt64) hx hb dL_pass_7 rfl ?_
    have hf2 : rd (aJs h1 x2 (0 : Int32) r.toInt64) (fun z => some z) = some h2 := by rw [hout r ho]; rfl
    refine p_last X hH hf2 dL_pass_8 (fun h9 H locs hH hf9 => ?_)
    cases hf9
    refine lv_goto (tgt := 18) hx hb dL_pass_9 (by decide) ?_
    refine lv_iconst (v := 0) hx hb dL_pass_18 (by decide) ?_
    exact p_wret0 X hH ho (by decide) (by decide) dL_pass_19
  · rcases hE E ho with rfl | rfl
    · refine p_catch X [] ⟨0, 9, 12, 13⟩ [⟨0, 9, 15, 18⟩] hex (fun z hz => by cases hz) (by decide) (by decide) m_350 (by decide) hcell hcv hcl ?_
      refine lv_astore_n (lv' := [(3, .ref q9), (0, .ref x0), (1, .int x1), (2, .ref x2)]) hx hb dL_pass_12 rfl hl (by decide) rfl (fun ls hl => ?_)
      refine lv_iconst (v := 1) hx hb dL_pass_13 (by decide) ?_
      exact p_wretx X hH ho (by decide) (by decide) (by decide) dL_pass_14
    · refine p_catch X [⟨0, 9, 12, 13⟩] ⟨0, 9, 15, 18⟩ [] hex (List.forall_mem_cons.mpr ⟨⟨by decide, "java/lang/IllegalArgumentException", m_350, by decide⟩, fun _ h => absurd h List.not_mem_nil⟩) (by decide) (by decide) m_436 (by decide) hcell hcv hcl ?_
      refine lv_astore_n (lv' := [(3, .ref q9), (0, .ref x0), (1, .int x1), (2, .ref x2)]) hx hb dL_pass_15 rfl hl (by decide) rfl (fun ls hl => ?_)
      refine lv_iconst (v := 2) hx hb dL_pass_16 (by decide) ?_
      exact p_wretx X hH ho (by decide) (by decide) (by decide) dL_pass_17
theorem mw_L_pass : MW yL_pass cL_pass 4 [(0, 9, 12, 13), (0, 9, 15, 18)] 3 := ⟨cwm_L_pass, m_31, ⟨by decide, by decide, by decide⟩, m_701⟩
abbrev rm_L_count : Room := { frames := 7, cells := 1, slots := 6, locals := 149 }
abbrev cd_L_count : String → Int32 := (fun E => if E = "java/lang/IndexOutOfBoundsException" then 1 else 0)
set_option maxRecDepth 100000 in
set_option maxHeartbeats 4000000 in
theorem c_L_count (l : Launch) (hfl : l.stackTraces = false) (G : GE) (x0 : Nat) (x1 : Int32) (x2 : Nat) (h : PH) (o : Sum Int32 String) (h1 : PH) (hf : f_X6_count G x0 x1 h = some (o, h1)) {u : Unit} (hc : isC 7 h x0 = some u) (h2 : PH) (hout : ∀ r, o = .inl r → aJs h1 x2 (0 : Int32) r.toInt64 = some h2) (hE : ∀ E, o = .inr E → E = "java/lang/IndexOutOfBoundsException") : Wt l yL_count cL_count 4 [(0, 9, 12, 24)] rm_L_count G [.ref x0, .int x1, .ref x2] h o h1 h2 cd_L_count := by
  refine Wt.of (by decide) (Nat.le_of_ble_eq_true rfl) ?_
  intro p e s m args below meth c ls X hex hH hl
  have hl : lv_has ls 4 [(0, .ref x0), (1, .int x1), (2, .ref x2)] := hl
  have X : Cx G p s m args meth c cL_count 4 RL "count" (some .int) := X
  have hx := X.1
  have hb := X.2.1
  obtain ⟨H, hHe⟩ : ∃ z, z = s.heap := ⟨_, rfl⟩
  obtain ⟨locs, hLe⟩ : ∃ z, z = ([] : List Loc) := ⟨_, rfl⟩
  rw [← hHe, ← hLe] at hH
  rw [← hHe, ← hLe]
  refine lv_aload_n hx hb dL_count_0 rfl (lv_at hl 2 rfl) ?_
  refine lv_iconst (v := 0) hx hb dL_count_1 (by decide) ?_
  refine lv_aload_n hx hb dL_count_2 rfl (lv_at hl 0 rfl) ?_
  refine lv_iload_n hx hb dL_count_3 rfl (lv_at hl 1 rfl) ?_
  refine p_cX (As := [.int x1]) (b := x0) (rest := [.int (0 : Int32), .ref x2]) (ci := 7) X hH (c_X6_count l hfl G x0 x1 h o h1 hf) mv_X6_count m_772 rfl hc (by decide) rfl hl.1 (Nat.le_of_ble_eq_true rfl) dL_count_4 (c2 := 1) (s2 := 6) (by decide) (fun r H locs ho hH => ?_) (fun E ce q9 H locs sz ho hH hcell hcv hcl => ?_)
  · refine lv_i2l (v := r.toInt64) hx hb dL_count_7 rfl ?_
    have hf2 : rd (aJs h1 x2 (0 : Int32) r.toInt64) (fun z => some z) = some h2 := by rw [hout r ho]; rfl
    refine p_last X hH hf2 dL_count_8 (fun h9 H locs hH hf9 => ?_)
    cases hf9
    refine lv_goto (tgt := 15) hx hb dL_count_9 (by decide) ?_
    refine lv_iconst (v := 0) hx hb dL_count_15 (by decide) ?_
    exact p_wret0 X hH ho (by decide) (by decide) dL_count_16
  · rcases hE E ho with rfl
    · refine p_catch X [] ⟨0, 9, 12, 24⟩ [] hex (fun z hz => by cases hz) (by decide) (by decide) m_460 (by decide) hcell hcv hcl ?_
      refine lv_astore_n (lv' := [(3, .ref q9), (0, .ref x0), (1, .int x1), (2, .ref x2)]) hx hb dL_count_12 rfl hl (by decide) rfl (fun ls hl => ?_)
      refine lv_iconst (v := 1) hx hb dL_count_13 (by decide) ?_
      exact p_wretx X hH ho (by decide) (by decide) (by decide) dL_count_14
theorem mw_L_count : MW yL_count cL_count 4 [(0, 9, 12, 24)] 3 := ⟨cwm_L_count, m_31, ⟨by decide, by decide, by decide⟩, m_770⟩
abbrev rm_L_party : Room := { frames := 7, cells := 1, slots := 6, locals := 113 }
abbrev cd_L_party : String → Int32 := (fun E => if E = "java/lang/IndexOutOfBoundsException" then 1 else 0)
set_option maxRecDepth 100000 in
set_option maxHeartbeats 4000000 in
theorem c_L_party (l : Launch) (hfl : l.stackTraces = false) (G : GE) (x0 : Nat) (x1 : Int32) (x2 : Int32) (x3 : Nat) (h : PH) (o : Sum Int32 String) (h1 : PH) (hf : f_X6_party G x0 x1 x2 h = some (o, h1)) {u : Unit} (hc : isC 7 h x0 = some u) (h2 : PH) (hout : ∀ r, o = .inl r → aJs h1 x3 (0 : Int32) r.toInt64 = some h2) (hE : ∀ E, o = .inr E → E = "java/lang/IndexOutOfBoundsException") : Wt l yL_party cL_party 5 [(0, 10, 13, 24)] rm_L_party G [.ref x0, .int x1, .int x2, .ref x3] h o h1 h2 cd_L_party := by
  refine Wt.of (by decide) (Nat.le_of_ble_eq_true rfl) ?_
  intro p e s m args below meth c ls X hex hH hl
  have hl : lv_has ls 5 [(0, .ref x0), (1, .int x1), (2, .int x2), (3, .ref x3)] := hl
  have X : Cx G p s m args meth c cL_party 5 RL "party" (some .int) := X
  have hx := X.1
  have hb := X.2.1
  obtain ⟨H, hHe⟩ : ∃ z, z = s.heap := ⟨_, rfl⟩
  obtain ⟨locs, hLe⟩ : ∃ z, z = ([] : List Loc) := ⟨_, rfl⟩
  rw [← hHe, ← hLe] at hH
  rw [← hHe, ← hLe]
  refine lv_aload_n hx hb dL_party_0 rfl (lv_at hl 3 rfl) ?_
  refine lv_iconst (v := 0) hx hb dL_party_1 (by decide) ?_
  refine lv_aload_n hx hb dL_party_2 rfl (lv_at hl 0 rfl) ?_
  refine lv_iload_n hx hb dL_party_3 rfl (lv_at hl 1 rfl) ?_
  refine lv_iload_n hx hb dL_party_4 rfl (lv_at hl 2 rfl) ?_
  refine p_cX (As := [.int x1, .int x2]) (b := x0) (rest := [.int (0 : Int32), .ref x3]) (ci := 7) X hH (c_X6_party l hfl G x0 x1 x2 h o h1 hf) mv_X6_party m_780 rfl hc (by decide) rfl hl.1 (Nat.le_of_ble_eq_true rfl) dL_party_5 (c2 := 1) (s2 := 6) (by decide) (fun r H locs ho hH => ?_) (fun E ce q9 H locs sz ho hH hcell hcv hcl => ?_)
  · refine lv_i2l (v := r.toInt64) hx hb dL_party_8 rfl ?_
    have hf2 : rd (aJs h1 x3 (0 : Int32) r.toInt64) (fun z => some z) = some h2 := by rw [hout r ho]; rfl
    refine p_last X hH hf2 dL_party_9 (fun h9 H locs hH hf9 => ?_)
    cases hf9
    refine lv_goto (tgt := 17) hx hb dL_party_10 (by decide) ?_
    refine lv_iconst (v := 0) hx hb dL_party_17 (by decide) ?_
    exact p_wret0 X hH ho (by decide) (by decide) dL_party_18
  · rcases hE E ho with rfl
    · refine p_catch X [] ⟨0, 10, 13, 24⟩ [] hex (fun z hz => by cases hz) (by decide) (by decide) m_460 (by decide) hcell hcv hcl ?_
      refine lv_astore (lv' := [(4, .ref q9), (0, .ref x0), (1, .int x1), (2, .int x2), (3, .ref x3)]) hx hb dL_party_13 hl (by decide) rfl (fun ls hl => ?_)
      refine lv_iconst (v := 1) hx hb dL_party_15 (by decide) ?_
      exact p_wretx X hH ho (by decide) (by decide) (by decide) dL_party_16
theorem mw_L_party : MW yL_party cL_party 5 [(0, 10, 13, 24)] 4 := ⟨cwm_L_party, m_31, ⟨by decide, by decide, by decide⟩, m_778⟩
abbrev rm_L_foresee : Room := { frames := 7, cells := 1, slots := 6, locals := 139 }
abbrev cd_L_foresee : String → Int32 := (fun E => if E = "java/lang/IndexOutOfBoundsException" then 1 else if E = "java/lang/IllegalArgumentException" then 2 else if E = "java/lang/IllegalStateException" then 3 else 0)
set_option maxRecDepth 100000 in
set_option maxHeartbeats 4000000 in
theorem c_L_foresee (l : Launch) (hfl : l.stackTraces = false) (G : GE) (x0 : Nat) (x1 : Int32) (x2 : Int32) (x3 : Nat) (h : PH) (o : Sum Int32 String) (h1 : PH) (hf : f_X6_foresee G x0 x1 x2 h = some (o, h1)) {u : Unit} (hc : isC 7 h x0 = some u) (h2 : PH) (hout : ∀ r, o = .inl r → aJs h1 x3 (0 : Int32) r.toInt64 = some h2) (hE : ∀ E, o = .inr E → E = "java/lang/IndexOutOfBoundsException" ∨ E = "java/lang/IllegalArgumentException" ∨ E = "java/lang/IllegalStateException") : Wt l yL_foresee cL_foresee 5 [(0, 10, 13, 24), (0, 10, 17, 13), (0, 10, 21, 18)] rm_L_foresee G [.ref x0, .int x1, .int x2, .ref x3] h o h1 h2 cd_L_foresee := by
  refine Wt.of (by decide) (Nat.le_of_ble_eq_true rfl) ?_
  intro p e s m args below meth c ls X hex hH hl
  have hl : lv_has ls 5 [(0, .ref x0), (1, .int x1), (2, .int x2), (3, .ref x3)] := hl
  have X : Cx G p s m args meth c cL_foresee 5 RL "foresee" (some .int) := X
  have hx := X.1
  have hb := X.2.1
  obtain ⟨H, hHe⟩ : ∃ z, z = s.heap := ⟨_, rfl⟩
  obtain ⟨locs, hLe⟩ : ∃ z, z = ([] : List Loc) := ⟨_, rfl⟩
  rw [← hHe, ← hLe] at hH
  rw [← hHe, ← hLe]
  refine lv_aload_n hx hb dL_foresee_0 rfl (lv_at hl 3 rfl) ?_
  refine lv_iconst (v := 0) hx hb dL_foresee_1 (by decide) ?_
  refine lv_aload_n hx hb dL_foresee_2 rfl (lv_at hl 0 rfl) ?_
  refine lv_iload_n hx hb dL_foresee_3 rfl (lv_at hl 1 rfl) ?_
  refine lv_iload_n hx hb dL_foresee_4 rfl (lv_at hl 2 rfl) ?_
  refine p_cX (As := [.int x1, .int x2]) (b := x0) (rest := [.int (0 : Int32), .ref x3]) (ci := 7) X hH (c_X6_foresee l hfl G x0 x1 x2 h o h1 hf) mv_X6_foresee m_793 rfl hc (by decide) rfl hl.1 (Nat.le_of_ble_eq_true rfl) dL_foresee_5 (c2 := 1) (s2 := 6) (by decide) (fun r H locs ho hH => ?_) (fun E ce q9 H locs sz ho hH hcell hcv hcl => ?_)
  · refine lv_i2l (v := r.toInt64) hx hb dL_foresee_8 rfl ?_
    have hf2 : rd (aJs h1 x3 (0 : Int32) r.toInt64) (fun z => some z) = some h2 := by rw [hout r ho]; rfl
    refine p_last X hH hf2 dL_foresee_9 (fun h9 H locs hH hf9 => ?_)
    cases hf9
    refine lv_goto (tgt := 25) hx hb dL_foresee_10 (by decide) ?_
    refine lv_iconst (v := 0) hx hb dL_foresee_25 (by decide) ?_
    exact p_wret0 X hH ho (by decide) (by decide) dL_foresee_26
  · rcases hE E ho with rfl | rfl | rfl
    · refine p_catch X [] ⟨0, 10, 13, 24⟩ [⟨0, 10, 17, 13⟩, ⟨0, 10, 21, 18⟩] hex (fun z hz => by cases hz) (by decide) (by decide) m_460 (by decide) hcell hcv hcl ?_
      refine lv_astore (lv' := [(4, .ref q9), (0, .ref x0), (1, .int x1), (2, .int x2), (3, .ref x3)]) hx hb dL_foresee_13 hl (by decide) rfl (fun ls hl => ?_)
      refine lv_iconst (v := 1) hx hb dL_foresee_15 (by decide) ?_
      exact p_wretx X hH ho (by decide) (by decide) (by decide) dL_foresee_16
    · refine p_catch X [⟨0, 10, 13, 24⟩] ⟨0, 10, 17, 13⟩ [⟨0, 10, 21, 18⟩] hex (List.forall_mem_cons.mpr ⟨⟨by decide, "java/lang/IndexOutOfBoundsException", m_460, by decide⟩, fun _ h => absurd h List.not_mem_nil⟩) (by decide) (by decide) m_350 (by decide) hcell hcv hcl ?_
      refine lv_astore (lv' := [(4, .ref q9), (0, .ref x0), (1, .int x1), (2, .int x2), (3, .ref x3)]) hx hb dL_foresee_17 hl (by decide) rfl (fun ls hl => ?_)
      refine lv_iconst (v := 2) hx hb dL_foresee_19 (by decide) ?_
      exact p_wretx X hH ho (by decide) (by decide) (by decide) dL_foresee_20
    · refine p_catch X [⟨0, 10, 13, 24⟩, ⟨0, 10, 17, 13⟩] ⟨0, 10, 21, 18⟩ [] hex (List.forall_mem_cons.mpr ⟨⟨by decide, "java/lang/IndexOutOfBoundsException", m_460, by decide⟩, (List.forall_mem_cons.mpr ⟨⟨by decide, "java/lang/IllegalArgumentException", m_350, by decide⟩, fun _ h => absurd h List.not_mem_nil⟩)⟩) (by decide) (by decide) m_436 (by decide) hcell hcv hcl ?_
      refine lv_astore (lv' := [(4, .ref q9), (0, .ref x0), (1, .int x1), (2, .int x2), (3, .ref x3)]) hx hb dL_foresee_21 hl (by decide) rfl (fun ls hl => ?_)
      refine lv_iconst (v := 3) hx hb dL_foresee_23 (by decide) ?_
      exact p_wretx X hH ho (by decide) (by decide) (by decide) dL_foresee_24
theorem mw_L_foresee : MW yL_foresee cL_foresee 5 [(0, 10, 13, 24), (0, 10, 17, 13), (0, 10, 21, 18)] 4 := ⟨cwm_L_foresee, m_31, ⟨by decide, by decide, by decide⟩, m_791⟩
abbrev rm_L_passes : Room := { frames := 7, cells := 1, slots := 6, locals := 162 }
abbrev cd_L_passes : String → Int32 := (fun E => if E = "java/lang/IndexOutOfBoundsException" then 1 else if E = "java/lang/IllegalArgumentException" then 2 else if E = "java/lang/IllegalStateException" then 3 else 0)
set_option maxRecDepth 100000 in
set_option maxHeartbeats 4000000 in
theorem c_L_passes (l : Launch) (hfl : l.stackTraces = false) (G : GE) (x0 : Nat) (x1 : Int32) (x2 : Int32) (x3 : Nat) (h : PH) (o : Sum Int32 String) (h1 : PH) (hf : f_X6_passes G x0 x1 x2 h = some (o, h1)) {u : Unit} (hc : isC 7 h x0 = some u) (h2 : PH) (hout : ∀ r, o = .inl r → aJs h1 x3 (0 : Int32) r.toInt64 = some h2) (hE : ∀ E, o = .inr E → E = "java/lang/IndexOutOfBoundsException" ∨ E = "java/lang/IllegalArgumentException" ∨ E = "java/lang/IllegalStateException") : Wt l yL_passes cL_passes 5 [(0, 10, 13, 24), (0, 10, 17, 13), (0, 10, 21, 18)] rm_L_passes G [.ref x0, .int x1, .int x2, .ref x3] h o h1 h2 cd_L_passes := by
  refine Wt.of (by decide) (Nat.le_of_ble_eq_true rfl) ?_
  intro p e s m args below meth c ls X hex hH hl
  have hl : lv_has ls 5 [(0, .ref x0), (1, .int x1), (2, .int x2), (3, .ref x3)] := hl
  have X : Cx G p s m args meth c cL_passes 5 RL "passes" (some .int) := X
  have hx := X.1
  have hb := X.2.1
  obtain ⟨H, hHe⟩ : ∃ z, z = s.heap := ⟨_, rfl⟩
  obtain ⟨locs, hLe⟩ : ∃ z, z = ([] : List Loc) := ⟨_, rfl⟩
  rw [← hHe, ← hLe] at hH
  rw [← hHe, ← hLe]
  refine lv_aload_n hx hb dL_passes_0 rfl (lv_at hl 3 rfl) ?_
  refine lv_iconst (v := 0) hx hb dL_passes_1 (by decide) ?_
  refine lv_aload_n hx hb dL_passes_2 rfl (lv_at hl 0 rfl) ?_
  refine lv_iload_n hx hb dL_passes_3 rfl (lv_at hl 1 rfl) ?_
  refine lv_iload_n hx hb dL_passes_4 rfl (lv_at hl 2 rfl) ?_
  refine p_cX (As := [.int x1, .int x2]) (b := x0) (rest := [.int (0 : Int32), .ref x3]) (ci := 7) X hH (c_X6_passes l hfl G x0 x1 x2 h o h1 hf) mv_X6_passes m_812 rfl hc (by decide) rfl hl.1 (Nat.le_of_ble_eq_true rfl) dL_passes_5 (c2 := 1) (s2 := 6) (by decide) (fun r H locs ho hH => ?_) (fun E ce q9 H locs sz ho hH hcell hcv hcl => ?_)
  · refine lv_i2l (v := r.toInt64) hx hb dL_passes_8 rfl ?_
    have hf2 : rd (aJs h1 x3 (0 : Int32) r.toInt64) (fun z => some z) = some h2 := by rw [hout r ho]; rfl
    refine p_last X hH hf2 dL_passes_9 (fun h9 H locs hH hf9 => ?_)
    cases hf9
    refine lv_goto (tgt := 25) hx hb dL_passes_10 (by decide) ?_
    refine lv_iconst (v := 0) hx hb dL_passes_25 (by decide) ?_
    exact p_wret0 X hH ho (by decide) (by decide) dL_passes_26
  · rcases hE E ho with rfl | rfl | rfl
    · refine p_catch X [] ⟨0, 10, 13, 24⟩ [⟨0, 10, 17, 13⟩, ⟨0, 10, 21, 18⟩] hex (fun z hz => by cases hz) (by decide) (by decide) m_460 (by decide) hcell hcv hcl ?_
      refine lv_astore (lv' := [(4, .ref q9), (0, .ref x0), (1, .int x1), (2, .int x2), (3, .ref x3)]) hx hb dL_passes_13 hl (by decide) rfl (fun ls hl => ?_)
      refine lv_iconst (v := 1) hx hb dL_passes_15 (by decide) ?_
      exact p_wretx X hH ho (by decide) (by decide) (by decide) dL_passes_16
    · refine p_catch X [⟨0, 10, 13, 24⟩] ⟨0, 10, 17, 13⟩ [⟨0, 10, 21, 18⟩] hex (List.forall_mem_cons.mpr ⟨⟨by decide, "java/lang/IndexOutOfBoundsException", m_460, by decide⟩, fun _ h => absurd h List.not_mem_nil⟩) (by decide) (by decide) m_350 (by decide) hcell hcv hcl ?_
      refine lv_astore (lv' := [(4, .ref q9), (0, .ref x0), (1, .int x1), (2, .int x2), (3, .ref x3)]) hx hb dL_passes_17 hl (by decide) rfl (fun ls hl => ?_)
      refine lv_iconst (v := 2) hx hb dL_passes_19 (by decide) ?_
      exact p_wretx X hH ho (by decide) (by decide) (by decide) dL_passes_20
    · refine p_catch X [⟨0, 10, 13, 24⟩, ⟨0, 10, 17, 13⟩] ⟨0, 10, 21, 18⟩ [] hex (List.forall_mem_cons.mpr ⟨⟨by decide, "java/lang/IndexOutOfBoundsException", m_460, by decide⟩, (List.forall_mem_cons.mpr ⟨⟨by decide, "java/lang/IllegalArgumentException", m_350, by decide⟩, fun _ h => absurd h List.not_mem_nil⟩)⟩) (by decide) (by decide) m_436 (by decide) hcell hcv hcl ?_
      refine lv_astore (lv' := [(4, .ref q9), (0, .ref x0), (1, .int x1), (2, .int x2), (3, .ref x3)]) hx hb dL_passes_21 hl (by decide) rfl (fun ls hl => ?_)
      refine lv_iconst (v := 3) hx hb dL_passes_23 (by decide) ?_
      exact p_wretx X hH ho (by decide) (by decide) (by decide) dL_passes_24
theorem mw_L_passes : MW yL_passes cL_passes 5 [(0, 10, 13, 24), (0, 10, 17, 13), (0, 10, 21, 18)] 4 := ⟨cwm_L_passes, m_31, ⟨by decide, by decide, by decide⟩, m_810⟩
abbrev rm_L_advise : Room := { frames := 7, cells := 1, slots := 6, locals := 165 }
abbrev cd_L_advise : String → Int32 := (fun E => if E = "java/lang/IndexOutOfBoundsException" then 1 else if E = "java/lang/IllegalArgumentException" then 2 else if E = "java/lang/IllegalStateException" then 3 else 0)
set_option maxRecDepth 100000 in
set_option maxHeartbeats 4000000 in
theorem c_L_advise (l : Launch) (hfl : l.stackTraces = false) (G : GE) (x0 : Nat) (x1 : Int32) (x2 : Int32) (x3 : Nat) (h : PH) (o : Sum Int32 String) (h1 : PH) (hf : f_X6_advise G x0 x1 x2 h = some (o, h1)) {u : Unit} (hc : isC 7 h x0 = some u) (h2 : PH) (hout : ∀ r, o = .inl r → aJs h1 x3 (0 : Int32) r.toInt64 = some h2) (hE : ∀ E, o = .inr E → E = "java/lang/IndexOutOfBoundsException" ∨ E = "java/lang/IllegalArgumentException" ∨ E = "java/lang/IllegalStateException") : Wt l yL_advise cL_advise 5 [(0, 10, 13, 24), (0, 10, 17, 13), (0, 10, 21, 18)] rm_L_advise G [.ref x0, .int x1, .int x2, .ref x3] h o h1 h2 cd_L_advise := by
  refine Wt.of (by decide) (Nat.le_of_ble_eq_true rfl) ?_
  intro p e s m args below meth c ls X hex hH hl
  have hl : lv_has ls 5 [(0, .ref x0), (1, .int x1), (2, .int x2), (3, .ref x3)] := hl
  have X : Cx G p s m args meth c cL_advise 5 RL "advise" (some .int) := X
  have hx := X.1
  have hb := X.2.1
  obtain ⟨H, hHe⟩ : ∃ z, z = s.heap := ⟨_, rfl⟩
  obtain ⟨locs, hLe⟩ : ∃ z, z = ([] : List Loc) := ⟨_, rfl⟩
  rw [← hHe, ← hLe] at hH
  rw [← hHe, ← hLe]
  refine lv_aload_n hx hb dL_advise_0 rfl (lv_at hl 3 rfl) ?_
  refine lv_iconst (v := 0) hx hb dL_advise_1 (by decide) ?_
  refine lv_aload_n hx hb dL_advise_2 rfl (lv_at hl 0 rfl) ?_
  refine lv_iload_n hx hb dL_advise_3 rfl (lv_at hl 1 rfl) ?_
  refine lv_iload_n hx hb dL_advise_4 rfl (lv_at hl 2 rfl) ?_
  refine p_cX (As := [.int x1, .int x2]) (b := x0) (rest := [.int (0 : Int32), .ref x3]) (ci := 7) X hH (c_X6_advise l hfl G x0 x1 x2 h o h1 hf) mv_X6_advise m_823 rfl hc (by decide) rfl hl.1 (Nat.le_of_ble_eq_true rfl) dL_advise_5 (c2 := 1) (s2 := 6) (by decide) (fun r H locs ho hH => ?_) (fun E ce q9 H locs sz ho hH hcell hcv hcl => ?_)
  · refine lv_i2l (v := r.toInt64) hx hb dL_advise_8 rfl ?_
    have hf2 : rd (aJs h1 x3 (0 : Int32) r.toInt64) (fun z => some z) = some h2 := by rw [hout r ho]; rfl
    refine p_last X hH hf2 dL_advise_9 (fun h9 H locs hH hf9 => ?_)
    cases hf9
    refine lv_goto (tgt := 25) hx hb dL_advise_10 (by decide) ?_
    refine lv_iconst (v := 0) hx hb dL_advise_25 (by decide) ?_
    exact p_wret0 X hH ho (by decide) (by decide) dL_advise_26
  · rcases hE E ho with rfl | rfl | rfl
    · refine p_catch X [] ⟨0, 10, 13, 24⟩ [⟨0, 10, 17, 13⟩, ⟨0, 10, 21, 18⟩] hex (fun z hz => by cases hz) (by decide) (by decide) m_460 (by decide) hcell hcv hcl ?_
      refine lv_astore (lv' := [(4, .ref q9), (0, .ref x0), (1, .int x1), (2, .int x2), (3, .ref x3)]) hx hb dL_advise_13 hl (by decide) rfl (fun ls hl => ?_)
      refine lv_iconst (v := 1) hx hb dL_advise_15 (by decide) ?_
      exact p_wretx X hH ho (by decide) (by decide) (by decide) dL_advise_16
    · refine p_catch X [⟨0, 10, 13, 24⟩] ⟨0, 10, 17, 13⟩ [⟨0, 10, 21, 18⟩] hex (List.forall_mem_cons.mpr ⟨⟨by decide, "java/lang/IndexOutOfBoundsException", m_460, by decide⟩, fun _ h => absurd h List.not_mem_nil⟩) (by decide) (by decide) m_350 (by decide) hcell hcv hcl ?_
      refine lv_astore (lv' := [(4, .ref q9), (0, .ref x0), (1, .int x1), (2, .int x2), (3, .ref x3)]) hx hb dL_advise_17 hl (by decide) rfl (fun ls hl => ?_)
      refine lv_iconst (v := 2) hx hb dL_advise_19 (by decide) ?_
      exact p_wretx X hH ho (by decide) (by decide) (by decide) dL_advise_20
    · refine p_catch X [⟨0, 10, 13, 24⟩, ⟨0, 10, 17, 13⟩] ⟨0, 10, 21, 18⟩ [] hex (List.forall_mem_cons.mpr ⟨⟨by decide, "java/lang/IndexOutOfBoundsException", m_460, by decide⟩, (List.forall_mem_cons.mpr ⟨⟨by decide, "java/lang/IllegalArgumentException", m_350, by decide⟩, fun _ h => absurd h List.not_mem_nil⟩)⟩) (by decide) (by decide) m_436 (by decide) hcell hcv hcl ?_
      refine lv_astore (lv' := [(4, .ref q9), (0, .ref x0), (1, .int x1), (2, .int x2), (3, .ref x3)]) hx hb dL_advise_21 hl (by decide) rfl (fun ls hl => ?_)
      refine lv_iconst (v := 3) hx hb dL_advise_23 (by decide) ?_
      exact p_wretx X hH ho (by decide) (by decide) (by decide) dL_advise_24
theorem mw_L_advise : MW yL_advise cL_advise 5 [(0, 10, 13, 24), (0, 10, 17, 13), (0, 10, 21, 18)] 4 := ⟨cwm_L_advise, m_31, ⟨by decide, by decide, by decide⟩, m_821⟩
