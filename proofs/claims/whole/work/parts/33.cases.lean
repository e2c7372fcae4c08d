/-! ===== the law's cases: a step of both sides, as pure conditions ===== -/
/-- the reference's part: its answer, its code, what stands in 'out' -/
def rfS (G : GE) (m out : Nat) (g : PH → Option (Int32 × PH)) (h2 : PH) (k : Int32) (P : PH → Prop) : Prop := (∃ u, isC 9 h2 m = some u) ∧ ∃ b h3, g h2 = some (b, h3) ∧ (∃ u, isC 9 h3 m = some u) ∧ ∃ h4, f_X8_thrown G m h3 = some (k, h4) ∧ (k = 0 → aJ h4 out 0 = some b.toInt64) ∧ P h4
def stX (G : GE) (x m out : Nat) (f : Option (Sum Int32 String × PH)) (okE : String → Prop) (cd : String → Int32) (g : PH → Option (Int32 × PH)) (h : PH) (P : PH → Prop) : Prop :=
  ∃ o h1, f = some (o, h1) ∧ (∃ u, isC 7 h x = some u) ∧ (∀ E, o = .inr E → okE E ∧ ¬ cd E = 0) ∧
  (∀ r, o = .inl r → ∃ h2, aJs h1 out 0 r.toInt64 = some h2 ∧ rfS G m out g h2 0 P) ∧
  (∀ E, o = .inr E → ∀ sz, (∀ q c, h1.2 q = some c → q < sz) → rfS G m out g (sz, h1.2) (cd E) P)
def stY {α : Type} (x m : Nat) (f : Option (α × PH)) (g : PH → Option (α × PH)) (eq : α → α → Prop) (h : PH) (P : PH → Prop) : Prop := (∃ u, isC 7 h x = some u) ∧ ∃ r h1, f = some (r, h1) ∧ (∃ u, isC 9 h1 m = some u) ∧ ∃ b h2, g h1 = some (b, h2) ∧ eq r b ∧ P h2
theorem lg_same (w : Int64) : lg_cmp w w = 0 := by
  unfold lg_cmp
  simp
theorem m_347 : Cond.methodLink "VaneHouseLaw" 78 ⟨"VaneHouseLaw", "beginWind", "(LVaneHouse;IIZ[J)I"⟩ ∈ W0 := w0_of 347 (by decide +kernel) rfl
theorem m_906 : Cond.code ⟨"VaneHouseModel", "beginWind", "(IIZ)I"⟩ prog_9_method_7_code 5 (some .int) ∈ W0 := w0_of 906 (by decide +kernel) rfl
theorem m_904 : Cond.instanceMethod ⟨"VaneHouseModel", "beginWind", "(IIZ)I"⟩ ∈ W0 := w0_of 904 (by decide +kernel) rfl
theorem m_905 : Cond.selects "VaneHouseModel" ⟨"VaneHouseModel", "beginWind", "(IIZ)I"⟩ ⟨"VaneHouseModel", "beginWind", "(IIZ)I"⟩ ∈ W0 := w0_of 905 (by decide +kernel) rfl
theorem mv_X8_beginWind : MV yX8_beginWind cX8_beginWind 5 (some .int) 3 := ⟨⟨m_906, m_42, by decide, by decide, by decide⟩, m_904, m_905⟩
theorem m_903 : Cond.methodLink "VaneHouseLaw" 83 ⟨"VaneHouseModel", "beginWind", "(IIZ)I"⟩ ∈ W0 := w0_of 903 (by decide +kernel) rfl
theorem m_902 : Cond.code ⟨"VaneHouseModel", "thrown", "()I"⟩ prog_9_method_2_code 1 (some .int) ∈ W0 := w0_of 902 (by decide +kernel) rfl
theorem m_900 : Cond.instanceMethod ⟨"VaneHouseModel", "thrown", "()I"⟩ ∈ W0 := w0_of 900 (by decide +kernel) rfl
theorem m_901 : Cond.selects "VaneHouseModel" ⟨"VaneHouseModel", "thrown", "()I"⟩ ⟨"VaneHouseModel", "thrown", "()I"⟩ ∈ W0 := w0_of 901 (by decide +kernel) rfl
theorem mv_X8_thrown : MV yX8_thrown cX8_thrown 1 (some .int) 0 := ⟨⟨m_902, m_42, by decide, by decide, by decide⟩, m_900, m_901⟩
theorem m_899 : Cond.methodLink "VaneHouseLaw" 84 ⟨"VaneHouseModel", "thrown", "()I"⟩ ∈ W0 := w0_of 899 (by decide +kernel) rfl
theorem m_433 : Cond.methodLink "VaneHouseLaw" 88 ⟨"VaneHouseLaw", "addWind", "(LVaneHouse;IIZ[J)I"⟩ ∈ W0 := w0_of 433 (by decide +kernel) rfl
theorem m_921 : Cond.code ⟨"VaneHouseModel", "addWind", "(IIZ)I"⟩ prog_9_method_8_code 4 (some .int) ∈ W0 := w0_of 921 (by decide +kernel) rfl
theorem m_919 : Cond.instanceMethod ⟨"VaneHouseModel", "addWind", "(IIZ)I"⟩ ∈ W0 := w0_of 919 (by decide +kernel) rfl
theorem m_920 : Cond.selects "VaneHouseModel" ⟨"VaneHouseModel", "addWind", "(IIZ)I"⟩ ⟨"VaneHouseModel", "addWind", "(IIZ)I"⟩ ∈ W0 := w0_of 920 (by decide +kernel) rfl
theorem mv_X8_addWind : MV yX8_addWind cX8_addWind 4 (some .int) 3 := ⟨⟨m_921, m_42, by decide, by decide, by decide⟩, m_919, m_920⟩
theorem m_918 : Cond.methodLink "VaneHouseLaw" 90 ⟨"VaneHouseModel", "addWind", "(IIZ)I"⟩ ∈ W0 := w0_of 918 (by decide +kernel) rfl
theorem m_457 : Cond.methodLink "VaneHouseLaw" 91 ⟨"VaneHouseLaw", "wind", "(LVaneHouse;II[J)I"⟩ ∈ W0 := w0_of 457 (by decide +kernel) rfl
theorem m_925 : Cond.code ⟨"VaneHouseModel", "wind", "(II)I"⟩ prog_9_method_10_code 3 (some .int) ∈ W0 := w0_of 925 (by decide +kernel) rfl
theorem m_923 : Cond.instanceMethod ⟨"VaneHouseModel", "wind", "(II)I"⟩ ∈ W0 := w0_of 923 (by decide +kernel) rfl
theorem m_924 : Cond.selects "VaneHouseModel" ⟨"VaneHouseModel", "wind", "(II)I"⟩ ⟨"VaneHouseModel", "wind", "(II)I"⟩ ∈ W0 := w0_of 924 (by decide +kernel) rfl
theorem mv_X8_wind : MV yX8_wind cX8_wind 3 (some .int) 2 := ⟨⟨m_925, m_42, by decide, by decide, by decide⟩, m_923, m_924⟩
theorem m_922 : Cond.methodLink "VaneHouseLaw" 94 ⟨"VaneHouseModel", "wind", "(II)I"⟩ ∈ W0 := w0_of 922 (by decide +kernel) rfl
theorem m_482 : Cond.methodLink "VaneHouseLaw" 95 ⟨"VaneHouseLaw", "setUp", "(LVaneHouse;IIIIII[J)I"⟩ ∈ W0 := w0_of 482 (by decide +kernel) rfl
theorem m_933 : Cond.code ⟨"VaneHouseModel", "setUp", "(IIIIII)I"⟩ prog_9_method_11_code 9 (some .int) ∈ W0 := w0_of 933 (by decide +kernel) rfl
theorem m_931 : Cond.instanceMethod ⟨"VaneHouseModel", "setUp", "(IIIIII)I"⟩ ∈ W0 := w0_of 931 (by decide +kernel) rfl
theorem m_932 : Cond.selects "VaneHouseModel" ⟨"VaneHouseModel", "setUp", "(IIIIII)I"⟩ ⟨"VaneHouseModel", "setUp", "(IIIIII)I"⟩ ∈ W0 := w0_of 932 (by decide +kernel) rfl
theorem mv_X8_setUp : MV yX8_setUp cX8_setUp 9 (some .int) 6 := ⟨⟨m_933, m_42, by decide, by decide, by decide⟩, m_931, m_932⟩
theorem m_930 : Cond.methodLink "VaneHouseLaw" 98 ⟨"VaneHouseModel", "setUp", "(IIIIII)I"⟩ ∈ W0 := w0_of 930 (by decide +kernel) rfl
theorem m_577 : Cond.methodLink "VaneHouseLaw" 99 ⟨"VaneHouseLaw", "oil", "(LVaneHouse;I[J)I"⟩ ∈ W0 := w0_of 577 (by decide +kernel) rfl
theorem m_942 : Cond.code ⟨"VaneHouseModel", "oil", "(I)I"⟩ prog_9_method_13_code 3 (some .int) ∈ W0 := w0_of 942 (by decide +kernel) rfl
theorem m_940 : Cond.instanceMethod ⟨"VaneHouseModel", "oil", "(I)I"⟩ ∈ W0 := w0_of 940 (by decide +kernel) rfl
theorem m_941 : Cond.selects "VaneHouseModel" ⟨"VaneHouseModel", "oil", "(I)I"⟩ ⟨"VaneHouseModel", "oil", "(I)I"⟩ ∈ W0 := w0_of 941 (by decide +kernel) rfl
theorem mv_X8_oil : MV yX8_oil cX8_oil 3 (some .int) 1 := ⟨⟨m_942, m_42, by decide, by decide, by decide⟩, m_940, m_941⟩
theorem m_939 : Cond.methodLink "VaneHouseLaw" 102 ⟨"VaneHouseModel", "oil", "(I)I"⟩ ∈ W0 := w0_of 939 (by decide +kernel) rfl
theorem m_593 : Cond.methodLink "VaneHouseLaw" 103 ⟨"VaneHouseLaw", "turn", "(LVaneHouse;II[J)I"⟩ ∈ W0 := w0_of 593 (by decide +kernel) rfl
theorem m_958 : Cond.code ⟨"VaneHouseModel", "turn", "(II)I"⟩ prog_9_method_14_code 4 (some .int) ∈ W0 := w0_of 958 (by decide +kernel) rfl
theorem m_956 : Cond.instanceMethod ⟨"VaneHouseModel", "turn", "(II)I"⟩ ∈ W0 := w0_of 956 (by decide +kernel) rfl
theorem m_957 : Cond.selects "VaneHouseModel" ⟨"VaneHouseModel", "turn", "(II)I"⟩ ⟨"VaneHouseModel", "turn", "(II)I"⟩ ∈ W0 := w0_of 957 (by decide +kernel) rfl
theorem mv_X8_turn : MV yX8_turn cX8_turn 4 (some .int) 2 := ⟨⟨m_958, m_42, by decide, by decide, by decide⟩, m_956, m_957⟩
theorem m_955 : Cond.methodLink "VaneHouseLaw" 105 ⟨"VaneHouseModel", "turn", "(II)I"⟩ ∈ W0 := w0_of 955 (by decide +kernel) rfl
theorem m_602 : Cond.methodLink "VaneHouseLaw" 106 ⟨"VaneHouseLaw", "vane", "(LVaneHouse;II[J)I"⟩ ∈ W0 := w0_of 602 (by decide +kernel) rfl
theorem m_963 : Cond.code ⟨"VaneHouseModel", "vane", "(II)I"⟩ prog_9_method_17_code 3 (some .int) ∈ W0 := w0_of 963 (by decide +kernel) rfl
theorem m_961 : Cond.instanceMethod ⟨"VaneHouseModel", "vane", "(II)I"⟩ ∈ W0 := w0_of 961 (by decide +kernel) rfl
theorem m_962 : Cond.selects "VaneHouseModel" ⟨"VaneHouseModel", "vane", "(II)I"⟩ ⟨"VaneHouseModel", "vane", "(II)I"⟩ ∈ W0 := w0_of 962 (by decide +kernel) rfl
theorem mv_X8_vane : MV yX8_vane cX8_vane 3 (some .int) 2 := ⟨⟨m_963, m_42, by decide, by decide, by decide⟩, m_961, m_962⟩
theorem m_960 : Cond.methodLink "VaneHouseLaw" 108 ⟨"VaneHouseModel", "vane", "(II)I"⟩ ∈ W0 := w0_of 960 (by decide +kernel) rfl
theorem m_610 : Cond.methodLink "VaneHouseLaw" 109 ⟨"VaneHouseLaw", "difference", "(LVaneHouse;II[J)I"⟩ ∈ W0 := w0_of 610 (by decide +kernel) rfl
theorem m_990 : Cond.code ⟨"VaneHouseModel", "difference", "(II)I"⟩ prog_9_method_18_code 3 (some .int) ∈ W0 := w0_of 990 (by decide +kernel) rfl
theorem m_988 : Cond.instanceMethod ⟨"VaneHouseModel", "difference", "(II)I"⟩ ∈ W0 := w0_of 988 (by decide +kernel) rfl
theorem m_989 : Cond.selects "VaneHouseModel" ⟨"VaneHouseModel", "difference", "(II)I"⟩ ⟨"VaneHouseModel", "difference", "(II)I"⟩ ∈ W0 := w0_of 989 (by decide +kernel) rfl
theorem mv_X8_difference : MV yX8_difference cX8_difference 3 (some .int) 2 := ⟨⟨m_990, m_42, by decide, by decide, by decide⟩, m_988, m_989⟩
theorem m_987 : Cond.methodLink "VaneHouseLaw" 111 ⟨"VaneHouseModel", "difference", "(II)I"⟩ ∈ W0 := w0_of 987 (by decide +kernel) rfl
theorem m_617 : Cond.methodLink "VaneHouseLaw" 112 ⟨"VaneHouseLaw", "move", "(LVaneHouse;IIII[J)I"⟩ ∈ W0 := w0_of 617 (by decide +kernel) rfl
theorem m_997 : Cond.code ⟨"VaneHouseModel", "move", "(IIII)I"⟩ prog_9_method_19_code 6 (some .int) ∈ W0 := w0_of 997 (by decide +kernel) rfl
theorem m_995 : Cond.instanceMethod ⟨"VaneHouseModel", "move", "(IIII)I"⟩ ∈ W0 := w0_of 995 (by decide +kernel) rfl
theorem m_996 : Cond.selects "VaneHouseModel" ⟨"VaneHouseModel", "move", "(IIII)I"⟩ ⟨"VaneHouseModel", "move", "(IIII)I"⟩ ∈ W0 := w0_of 996 (by decide +kernel) rfl
theorem mv_X8_move : MV yX8_move cX8_move 6 (some .int) 4 := ⟨⟨m_997, m_42, by decide, by decide, by decide⟩, m_995, m_996⟩
theorem m_994 : Cond.methodLink "VaneHouseLaw" 115 ⟨"VaneHouseModel", "move", "(IIII)I"⟩ ∈ W0 := w0_of 994 (by decide +kernel) rfl
theorem m_656 : Cond.methodLink "VaneHouseLaw" 116 ⟨"VaneHouseLaw", "put", "(LVaneHouse;II[J)I"⟩ ∈ W0 := w0_of 656 (by decide +kernel) rfl
theorem m_1001 : Cond.code ⟨"VaneHouseModel", "put", "(II)I"⟩ prog_9_method_21_code 3 (some .int) ∈ W0 := w0_of 1001 (by decide +kernel) rfl
theorem m_999 : Cond.instanceMethod ⟨"VaneHouseModel", "put", "(II)I"⟩ ∈ W0 := w0_of 999 (by decide +kernel) rfl
theorem m_1000 : Cond.selects "VaneHouseModel" ⟨"VaneHouseModel", "put", "(II)I"⟩ ⟨"VaneHouseModel", "put", "(II)I"⟩ ∈ W0 := w0_of 1000 (by decide +kernel) rfl
theorem mv_X8_put : MV yX8_put cX8_put 3 (some .int) 2 := ⟨⟨m_1001, m_42, by decide, by decide, by decide⟩, m_999, m_1000⟩
theorem m_998 : Cond.methodLink "VaneHouseLaw" 118 ⟨"VaneHouseModel", "put", "(II)I"⟩ ∈ W0 := w0_of 998 (by decide +kernel) rfl
theorem m_684 : Cond.methodLink "VaneHouseLaw" 119 ⟨"VaneHouseLaw", "motion", "(LVaneHouse;II[J)I"⟩ ∈ W0 := w0_of 684 (by decide +kernel) rfl
theorem m_1009 : Cond.code ⟨"VaneHouseModel", "motion", "(II)I"⟩ prog_9_method_23_code 3 (some .int) ∈ W0 := w0_of 1009 (by decide +kernel) rfl
theorem m_1007 : Cond.instanceMethod ⟨"VaneHouseModel", "motion", "(II)I"⟩ ∈ W0 := w0_of 1007 (by decide +kernel) rfl
theorem m_1008 : Cond.selects "VaneHouseModel" ⟨"VaneHouseModel", "motion", "(II)I"⟩ ⟨"VaneHouseModel", "motion", "(II)I"⟩ ∈ W0 := w0_of 1008 (by decide +kernel) rfl
theorem mv_X8_motion : MV yX8_motion cX8_motion 3 (some .int) 2 := ⟨⟨m_1009, m_42, by decide, by decide, by decide⟩, m_1007, m_1008⟩
theorem m_1006 : Cond.methodLink "VaneHouseLaw" 121 ⟨"VaneHouseModel", "motion", "(II)I"⟩ ∈ W0 := w0_of 1006 (by decide +kernel) rfl
theorem m_692 : Cond.methodLink "VaneHouseLaw" 122 ⟨"VaneHouseLaw", "stand", "(LVaneHouse;II[J)I"⟩ ∈ W0 := w0_of 692 (by decide +kernel) rfl
theorem m_1032 : Cond.code ⟨"VaneHouseModel", "stand", "(II)I"⟩ prog_9_method_24_code 3 (some .int) ∈ W0 := w0_of 1032 (by decide +kernel) rfl
theorem m_1030 : Cond.instanceMethod ⟨"VaneHouseModel", "stand", "(II)I"⟩ ∈ W0 := w0_of 1030 (by decide +kernel) rfl
theorem m_1031 : Cond.selects "VaneHouseModel" ⟨"VaneHouseModel", "stand", "(II)I"⟩ ⟨"VaneHouseModel", "stand", "(II)I"⟩ ∈ W0 := w0_of 1031 (by decide +kernel) rfl
theorem mv_X8_stand : MV yX8_stand cX8_stand 3 (some .int) 2 := ⟨⟨m_1032, m_42, by decide, by decide, by decide⟩, m_1030, m_1031⟩
theorem m_1029 : Cond.methodLink "VaneHouseLaw" 124 ⟨"VaneHouseModel", "stand", "(II)I"⟩ ∈ W0 := w0_of 1029 (by decide +kernel) rfl
theorem m_700 : Cond.methodLink "VaneHouseLaw" 125 ⟨"VaneHouseLaw", "pass", "(LVaneHouse;I[J)I"⟩ ∈ W0 := w0_of 700 (by decide +kernel) rfl
theorem m_1037 : Cond.code ⟨"VaneHouseModel", "pass", "(I)I"⟩ prog_9_method_25_code 4 (some .int) ∈ W0 := w0_of 1037 (by decide +kernel) rfl
theorem m_1035 : Cond.instanceMethod ⟨"VaneHouseModel", "pass", "(I)I"⟩ ∈ W0 := w0_of 1035 (by decide +kernel) rfl
theorem m_1036 : Cond.selects "VaneHouseModel" ⟨"VaneHouseModel", "pass", "(I)I"⟩ ⟨"VaneHouseModel", "pass", "(I)I"⟩ ∈ W0 := w0_of 1036 (by decide +kernel) rfl
theorem mv_X8_pass : MV yX8_pass cX8_pass 4 (some .int) 1 := ⟨⟨m_1037, m_42, by decide, by decide, by decide⟩, m_1035, m_1036⟩
theorem m_1034 : Cond.methodLink "VaneHouseLaw" 127 ⟨"VaneHouseModel", "pass", "(I)I"⟩ ∈ W0 := w0_of 1034 (by decide +kernel) rfl
theorem m_769 : Cond.methodLink "VaneHouseLaw" 128 ⟨"VaneHouseLaw", "count", "(LVaneHouse;I[J)I"⟩ ∈ W0 := w0_of 769 (by decide +kernel) rfl
theorem m_1062 : Cond.code ⟨"VaneHouseModel", "count", "(I)I"⟩ prog_9_method_27_code 2 (some .int) ∈ W0 := w0_of 1062 (by decide +kernel) rfl
theorem m_1060 : Cond.instanceMethod ⟨"VaneHouseModel", "count", "(I)I"⟩ ∈ W0 := w0_of 1060 (by decide +kernel) rfl
theorem m_1061 : Cond.selects "VaneHouseModel" ⟨"VaneHouseModel", "count", "(I)I"⟩ ⟨"VaneHouseModel", "count", "(I)I"⟩ ∈ W0 := w0_of 1061 (by decide +kernel) rfl
theorem mv_X8_count : MV yX8_count cX8_count 2 (some .int) 1 := ⟨⟨m_1062, m_42, by decide, by decide, by decide⟩, m_1060, m_1061⟩
theorem m_1059 : Cond.methodLink "VaneHouseLaw" 130 ⟨"VaneHouseModel", "count", "(I)I"⟩ ∈ W0 := w0_of 1059 (by decide +kernel) rfl
theorem m_777 : Cond.methodLink "VaneHouseLaw" 131 ⟨"VaneHouseLaw", "party", "(LVaneHouse;II[J)I"⟩ ∈ W0 := w0_of 777 (by decide +kernel) rfl
theorem m_1070 : Cond.code ⟨"VaneHouseModel", "party", "(II)I"⟩ prog_9_method_29_code 3 (some .int) ∈ W0 := w0_of 1070 (by decide +kernel) rfl
theorem m_1068 : Cond.instanceMethod ⟨"VaneHouseModel", "party", "(II)I"⟩ ∈ W0 := w0_of 1068 (by decide +kernel) rfl
theorem m_1069 : Cond.selects "VaneHouseModel" ⟨"VaneHouseModel", "party", "(II)I"⟩ ⟨"VaneHouseModel", "party", "(II)I"⟩ ∈ W0 := w0_of 1069 (by decide +kernel) rfl
theorem mv_X8_party : MV yX8_party cX8_party 3 (some .int) 2 := ⟨⟨m_1070, m_42, by decide, by decide, by decide⟩, m_1068, m_1069⟩
theorem m_1067 : Cond.methodLink "VaneHouseLaw" 133 ⟨"VaneHouseModel", "party", "(II)I"⟩ ∈ W0 := w0_of 1067 (by decide +kernel) rfl
theorem m_216 : Cond.code ⟨"VaneHouse", "coalition", "()I"⟩ prog_1_method_17_code 7 (some .int) ∈ W0 := w0_of 216 (by decide +kernel) rfl
theorem m_214 : Cond.instanceMethod ⟨"VaneHouse", "coalition", "()I"⟩ ∈ W0 := w0_of 214 (by decide +kernel) rfl
theorem m_215 : Cond.selects "VaneHouse" ⟨"VaneHouse", "coalition", "()I"⟩ ⟨"VaneHouse", "coalition", "()I"⟩ ∈ W0 := w0_of 215 (by decide +kernel) rfl
theorem mv_X6_coalition : MV yX6_coalition cX6_coalition 7 (some .int) 0 := ⟨⟨m_216, m_32, by decide, by decide, by decide⟩, m_214, m_215⟩
theorem m_213 : Cond.methodLink "VaneHouseLaw" 134 ⟨"VaneHouse", "coalition", "()I"⟩ ∈ W0 := w0_of 213 (by decide +kernel) rfl
theorem m_1078 : Cond.code ⟨"VaneHouseModel", "coalition", "()I"⟩ prog_9_method_30_code 7 (some .int) ∈ W0 := w0_of 1078 (by decide +kernel) rfl
theorem m_1076 : Cond.instanceMethod ⟨"VaneHouseModel", "coalition", "()I"⟩ ∈ W0 := w0_of 1076 (by decide +kernel) rfl
theorem m_1077 : Cond.selects "VaneHouseModel" ⟨"VaneHouseModel", "coalition", "()I"⟩ ⟨"VaneHouseModel", "coalition", "()I"⟩ ∈ W0 := w0_of 1077 (by decide +kernel) rfl
theorem mv_X8_coalition : MV yX8_coalition cX8_coalition 7 (some .int) 0 := ⟨⟨m_1078, m_42, by decide, by decide, by decide⟩, m_1076, m_1077⟩
theorem m_1075 : Cond.methodLink "VaneHouseLaw" 137 ⟨"VaneHouseModel", "coalition", "()I"⟩ ∈ W0 := w0_of 1075 (by decide +kernel) rfl
theorem m_790 : Cond.methodLink "VaneHouseLaw" 138 ⟨"VaneHouseLaw", "foresee", "(LVaneHouse;II[J)I"⟩ ∈ W0 := w0_of 790 (by decide +kernel) rfl
theorem m_1083 : Cond.code ⟨"VaneHouseModel", "foresee", "(II)I"⟩ prog_9_method_31_code 4 (some .int) ∈ W0 := w0_of 1083 (by decide +kernel) rfl
theorem m_1081 : Cond.instanceMethod ⟨"VaneHouseModel", "foresee", "(II)I"⟩ ∈ W0 := w0_of 1081 (by decide +kernel) rfl
theorem m_1082 : Cond.selects "VaneHouseModel" ⟨"VaneHouseModel", "foresee", "(II)I"⟩ ⟨"VaneHouseModel", "foresee", "(II)I"⟩ ∈ W0 := w0_of 1082 (by decide +kernel) rfl
theorem mv_X8_foresee : MV yX8_foresee cX8_foresee 4 (some .int) 2 := ⟨⟨m_1083, m_42, by decide, by decide, by decide⟩, m_1081, m_1082⟩
theorem m_1080 : Cond.methodLink "VaneHouseLaw" 140 ⟨"VaneHouseModel", "foresee", "(II)I"⟩ ∈ W0 := w0_of 1080 (by decide +kernel) rfl
theorem m_809 : Cond.methodLink "VaneHouseLaw" 141 ⟨"VaneHouseLaw", "passes", "(LVaneHouse;II[J)I"⟩ ∈ W0 := w0_of 809 (by decide +kernel) rfl
theorem m_1092 : Cond.code ⟨"VaneHouseModel", "passes", "(II)I"⟩ prog_9_method_33_code 3 (some .int) ∈ W0 := w0_of 1092 (by decide +kernel) rfl
theorem m_1090 : Cond.instanceMethod ⟨"VaneHouseModel", "passes", "(II)I"⟩ ∈ W0 := w0_of 1090 (by decide +kernel) rfl
theorem m_1091 : Cond.selects "VaneHouseModel" ⟨"VaneHouseModel", "passes", "(II)I"⟩ ⟨"VaneHouseModel", "passes", "(II)I"⟩ ∈ W0 := w0_of 1091 (by decide +kernel) rfl
theorem mv_X8_passes : MV yX8_passes cX8_passes 3 (some .int) 2 := ⟨⟨m_1092, m_42, by decide, by decide, by decide⟩, m_1090, m_1091⟩
theorem m_1089 : Cond.methodLink "VaneHouseLaw" 143 ⟨"VaneHouseModel", "passes", "(II)I"⟩ ∈ W0 := w0_of 1089 (by decide +kernel) rfl
theorem m_820 : Cond.methodLink "VaneHouseLaw" 144 ⟨"VaneHouseLaw", "advise", "(LVaneHouse;II[J)I"⟩ ∈ W0 := w0_of 820 (by decide +kernel) rfl
theorem m_1102 : Cond.code ⟨"VaneHouseModel", "advise", "(II)I"⟩ prog_9_method_34_code 7 (some .int) ∈ W0 := w0_of 1102 (by decide +kernel) rfl
theorem m_1100 : Cond.instanceMethod ⟨"VaneHouseModel", "advise", "(II)I"⟩ ∈ W0 := w0_of 1100 (by decide +kernel) rfl
theorem m_1101 : Cond.selects "VaneHouseModel" ⟨"VaneHouseModel", "advise", "(II)I"⟩ ⟨"VaneHouseModel", "advise", "(II)I"⟩ ∈ W0 := w0_of 1101 (by decide +kernel) rfl
theorem mv_X8_advise : MV yX8_advise cX8_advise 7 (some .int) 2 := ⟨⟨m_1102, m_42, by decide, by decide, by decide⟩, m_1100, m_1101⟩
theorem m_1099 : Cond.methodLink "VaneHouseLaw" 146 ⟨"VaneHouseModel", "advise", "(II)I"⟩ ∈ W0 := w0_of 1099 (by decide +kernel) rfl
theorem m_258 : Cond.code ⟨"VaneHouse", "discord", "()D"⟩ prog_1_method_21_code 4 (some .double) ∈ W0 := w0_of 258 (by decide +kernel) rfl
theorem m_256 : Cond.instanceMethod ⟨"VaneHouse", "discord", "()D"⟩ ∈ W0 := w0_of 256 (by decide +kernel) rfl
theorem m_257 : Cond.selects "VaneHouse" ⟨"VaneHouse", "discord", "()D"⟩ ⟨"VaneHouse", "discord", "()D"⟩ ∈ W0 := w0_of 257 (by decide +kernel) rfl
theorem mv_X6_discord : MV yX6_discord cX6_discord 4 (some .double) 0 := ⟨⟨m_258, m_32, by decide, by decide, by decide⟩, m_256, m_257⟩
theorem m_255 : Cond.methodLink "VaneHouseLaw" 147 ⟨"VaneHouse", "discord", "()D"⟩ ∈ W0 := w0_of 255 (by decide +kernel) rfl
theorem m_1106 : Cond.code ⟨"VaneHouseModel", "discord", "()D"⟩ prog_9_method_35_code 3 (some .double) ∈ W0 := w0_of 1106 (by decide +kernel) rfl
theorem m_1104 : Cond.instanceMethod ⟨"VaneHouseModel", "discord", "()D"⟩ ∈ W0 := w0_of 1104 (by decide +kernel) rfl
theorem m_1105 : Cond.selects "VaneHouseModel" ⟨"VaneHouseModel", "discord", "()D"⟩ ⟨"VaneHouseModel", "discord", "()D"⟩ ∈ W0 := w0_of 1105 (by decide +kernel) rfl
theorem mv_X8_discord : MV yX8_discord cX8_discord 3 (some .double) 0 := ⟨⟨m_1106, m_42, by decide, by decide, by decide⟩, m_1104, m_1105⟩
theorem m_1103 : Cond.methodLink "VaneHouseLaw" 151 ⟨"VaneHouseModel", "discord", "()D"⟩ ∈ W0 := w0_of 1103 (by decide +kernel) rfl
theorem m_278 : Cond.code ⟨"VaneHouse", "digest", "()J"⟩ prog_1_method_22_code 4 (some .long) ∈ W0 := w0_of 278 (by decide +kernel) rfl
theorem m_276 : Cond.instanceMethod ⟨"VaneHouse", "digest", "()J"⟩ ∈ W0 := w0_of 276 (by decide +kernel) rfl
theorem m_277 : Cond.selects "VaneHouse" ⟨"VaneHouse", "digest", "()J"⟩ ⟨"VaneHouse", "digest", "()J"⟩ ∈ W0 := w0_of 277 (by decide +kernel) rfl
theorem mv_X6_digest : MV yX6_digest cX6_digest 4 (some .long) 0 := ⟨⟨m_278, m_32, by decide, by decide, by decide⟩, m_276, m_277⟩
theorem m_275 : Cond.methodLink "VaneHouseLaw" 152 ⟨"VaneHouse", "digest", "()J"⟩ ∈ W0 := w0_of 275 (by decide +kernel) rfl
theorem m_1112 : Cond.code ⟨"VaneHouseModel", "digest", "()J"⟩ prog_9_method_36_code 5 (some .long) ∈ W0 := w0_of 1112 (by decide +kernel) rfl
theorem m_1110 : Cond.instanceMethod ⟨"VaneHouseModel", "digest", "()J"⟩ ∈ W0 := w0_of 1110 (by decide +kernel) rfl
theorem m_1111 : Cond.selects "VaneHouseModel" ⟨"VaneHouseModel", "digest", "()J"⟩ ⟨"VaneHouseModel", "digest", "()J"⟩ ∈ W0 := w0_of 1111 (by decide +kernel) rfl
theorem mv_X8_digest : MV yX8_digest cX8_digest 5 (some .long) 0 := ⟨⟨m_1112, m_42, by decide, by decide, by decide⟩, m_1110, m_1111⟩
theorem m_1109 : Cond.methodLink "VaneHouseLaw" 156 ⟨"VaneHouseModel", "digest", "()J"⟩ ∈ W0 := w0_of 1109 (by decide +kernel) rfl
section LAWC
variable {G : GE} {p : Program} {l : Launch} {e : Env} {s : State} {m : MethodId} {args : Array Value} {below : List Frame} {meth : Method} {c : Code} {H : Heap} {locs : List Loc} {cells slots : Nat} {Q : State → Prop}
variable {h : PH} {b L : Nat} {xs : Nat → Int32} {ls : Array Slot}
theorem p_sld {nL : Nat} {own nm : String} {ret : Option FieldType} {cc : ByteArray} {R : Room} {pc : Nat} {rest : List Value} (X : Cx G p s m args meth c cc nL own nm ret) (hH : Hx G s h H locs) (hX : va_X b L xs s s.heap) (hbl : b < s.heap.size) (hbA : ¬ gB G ≤ b) (hL : L ≤ 3584) {z : Int32} {j : Nat} (hz : z = nI j) (hj : j < L) (hdg : decode cc pc = .ok (.iaload, 1))
    (kk : W p l e R s m args below meth c H locs cells slots Q (F0 m (pc + 1) ls (.int (xs j) :: rest))) : W p l e R s m args below meth c H locs cells slots Q (F0 m pc ls (.int z :: .ref b :: rest)) := by
  subst hz
  refine va_sld X.1 X.2.1 hX hbl hbA (Hx.S X hH) (vp_in_nI hj (by omega)) hdg ?_
  rw [nI_clamp (by omega)]
  exact kk
theorem Hx.lt (hH : Hx G s h H locs) : ∀ q c, h.2 q = some c → q < h.1 := fun q c0 hc => by rw [← hH.1.1]; exact (hH.1.2.2.2 q c0 hc).1.lt

abbrev okE_L_beginWind : String → Prop := fun E => E = "java/lang/IllegalArgumentException"
set_option maxRecDepth 100000 in
set_option maxHeartbeats 4000000 in
theorem lc_beginWind (X : Cx G p s m args meth c cL_law 9 "VaneHouseLaw" meth.name ret) (hX : va_X b L xs s s.heap) (hbl : b < s.heap.size) (hbA : ¬ gB G ≤ b) (hL : L ≤ 3584) (hfl : l.stackTraces = false) {x y z : Nat} {i : Int32} {j : Nat} (hi : i = nI j) (hj : j + 7 ≤ L) (P : PH → Prop) (hH : Hx G s h H locs) (hl : lv_has ls 9 [(0, .ref b), (1, .ref x), (2, .ref y), (3, .ref z), (4, .int i)]) (hst0 : xs (j + 3) = 0 → stX G x y z (f_X6_beginWind G x (xs (j + 1)) (xs (j + 2)) (0 : Int32) h) okE_L_beginWind cd_L_beginWind (fun h => f_X8_beginWind G y (xs (j + 1)) (xs (j + 2)) (0 : Int32) h) h P) (hst1 : ¬ xs (j + 3) = 0 → stX G x y z (f_X6_beginWind G x (xs (j + 1)) (xs (j + 2)) (1 : Int32) h) okE_L_beginWind cd_L_beginWind (fun h => f_X8_beginWind G y (xs (j + 1)) (xs (j + 2)) (1 : Int32) h) h P) (hcl : cells + 20 ≤ 601024) (hsl : slots + 240 ≤ 7293034)
    (kk : ∀ (h' : PH) (H' : Heap) (locs' : List Loc) (ls' : Array Slot), P h' → Hx G s h' H' locs' → lv_has ls' 9 [(0, .ref b), (1, .ref x), (2, .ref y), (3, .ref z), (4, .int i)] → W p l e room_1 s m args below meth c H' locs' (cells + 20) (slots + 240) Q (F0 m 1526 ls' [])) : W p l e room_1 s m args below meth c H locs cells slots Q (F0 m 140 ls []) := by
  have hx := X.1
  have hb := X.2.1
  by_cases hz : xs (j + 3) = 0
  · have hst := hst0 hz
    refine lv_aload_n hx hb dL_law_140 rfl (lv_at hl 1 rfl) ?_
    refine lv_aload_n hx hb dL_law_141 rfl (lv_at hl 0 rfl) ?_
    refine lv_iload hx hb dL_law_142 (lv_at hl 4 rfl) ?_
    refine lv_iconst (v := 1) hx hb dL_law_144 (by decide) ?_
    refine lv_iadd hx hb dL_law_145 ?_
    refine p_sld X hH hX hbl hbA hL (z := i + (1 : Int32)) (j := j + 1) (by rw [hi]; exact nI_add j 1) (by omega) dL_law_146 ?_
    refine lv_aload_n hx hb dL_law_147 rfl (lv_at hl 0 rfl) ?_
    refine lv_iload hx hb dL_law_148 (lv_at hl 4 rfl) ?_
    refine lv_iconst (v := 2) hx hb dL_law_150 (by decide) ?_
    refine lv_iadd hx hb dL_law_151 ?_
    refine p_sld X hH hX hbl hbA hL (z := i + (2 : Int32)) (j := j + 2) (by rw [hi]; exact nI_add j 2) (by omega) dL_law_152 ?_
    refine lv_aload_n hx hb dL_law_153 rfl (lv_at hl 0 rfl) ?_
    refine lv_iload hx hb dL_law_154 (lv_at hl 4 rfl) ?_
    refine lv_iconst (v := 3) hx hb dL_law_156 (by decide) ?_
    refine lv_iadd hx hb dL_law_157 ?_
    refine p_sld X hH hX hbl hbA hL (z := i + (3 : Int32)) (j := j + 3) (by rw [hi]; exact nI_add j 3) (by omega) dL_law_158 ?_
    refine lv_if_eq (tgt := 166) hx hb dL_law_159 (by decide) (fun _ => ?_) (fun z0 => absurd hz z0)
    refine lv_iconst (v := 0) hx hb dL_law_166 (by decide) ?_
    refine lv_aload_n hx hb dL_law_167 rfl (lv_at hl 3 rfl) ?_
    obtain ⟨o, h1, hf, ⟨u7, hc7⟩, hE, hok, hex⟩ := hst
    have hout : ∃ h2, (∀ r, o = .inl r → aJs h1 z (0 : Int32) r.toInt64 = some h2 ∧ rfS G y z (fun h => f_X8_beginWind G y (xs (j + 1)) (xs (j + 2)) (0 : Int32) h) h2 0 P) := by
      cases o with
      | inl r => obtain ⟨h2, q1, q2⟩ := hok r rfl; exact ⟨h2, fun r2 e2 => by cases e2; exact ⟨q1, q2⟩⟩
      | inr E => exact ⟨h1, fun r2 e2 => by cases e2⟩
    obtain ⟨h2, hout⟩ := hout
    refine p_cW (As := [.ref x, .int (xs (j + 1)), .int (xs (j + 2)), .int (0 : Int32), .ref z]) (rest := []) X hH (c_L_beginWind l hfl G x (xs (j + 1)) (xs (j + 2)) (0 : Int32) z h o h1 hf hc7 h2 (fun r e2 => (hout r e2).1) (fun E e2 => (hE E e2).1)) mw_L_beginWind m_347 (by decide) rfl hl.1 (Nat.le_of_ble_eq_true rfl) dL_law_168 (c2 := cells + 10) (s2 := slots + 140) ⟨by show cells + 3 ≤ _; omega, by show cells + 10 ≤ 601024; omega, by show slots + 58 ≤ _; omega, by show slots + 140 ≤ 7293034; omega⟩ (fun r H locs ho hH => ?_) (fun E H locs sz ho hH => ?_)
    · obtain ⟨⟨u9, hc9⟩, bb, h3, hg, ⟨u9b, hc9b⟩, h4, ht, haJ, hP⟩ := (hout r ho).2
      refine lv_istore (lv' := [(5, .int (0 : Int32)), (0, .ref b), (1, .ref x), (2, .ref y), (3, .ref z), (4, .int i)]) hx hb dL_law_171 hl (by decide) rfl (fun ls hl => ?_)
      refine lv_aload_n hx hb dL_law_173 rfl (lv_at hl 3 rfl) ?_
      refine lv_aload_n hx hb dL_law_174 rfl (lv_at hl 1 rfl) ?_
      refine lv_iload hx hb dL_law_175 (lv_at hl 5 rfl) ?_
      refine lv_iconst (v := 1) hx hb dL_law_177 (by decide) ?_
      refine lv_iadd hx hb dL_law_178 ?_
      refine p_sld X hH hX hbl hbA hL (z := i + (1 : Int32)) (j := j + 1) (by rw [hi]; exact nI_add j 1) (by omega) dL_law_179 ?_
      refine lv_aload_n hx hb dL_law_180 rfl (lv_at hl 1 rfl) ?_
      refine lv_iload hx hb dL_law_181 (lv_at hl 5 rfl) ?_
      refine lv_iconst (v := 2) hx hb dL_law_183 (by decide) ?_
      refine lv_iadd hx hb dL_law_184 ?_
      refine p_sld X hH hX hbl hbA hL (z := i + (2 : Int32)) (j := j + 2) (by rw [hi]; exact nI_add j 2) (by omega) dL_law_185 ?_
      refine lv_aload_n hx hb dL_law_186 rfl (lv_at hl 1 rfl) ?_
      refine lv_iload hx hb dL_law_187 (lv_at hl 5 rfl) ?_
      refine lv_iconst (v := 3) hx hb dL_law_189 (by decide) ?_
      refine lv_iadd hx hb dL_law_190 ?_
      refine p_sld X hH hX hbl hbA hL (z := i + (3 : Int32)) (j := j + 3) (by rw [hi]; exact nI_add j 3) (by omega) dL_law_191 ?_
      refine lv_if_eq (tgt := 199) hx hb dL_law_192 (by decide) (fun _ => ?_) (fun z0 => absurd hz z0)
      refine lv_iconst (v := 0) hx hb dL_law_199 (by decide) ?_
      refine p_cV (As := [.int (xs (j + 1)), .int (xs (j + 2)), .int (0 : Int32)]) (b := y) (rest := []) (ci := 9) X hH (c_X8_beginWind l G y (xs (j + 1)) (xs (j + 2)) (0 : Int32) _ bb h3 hg) mv_X8_beginWind (Or.inl m_903) rfl hc9 (by decide) rfl hl.1 (Nat.le_of_ble_eq_true rfl) dL_law_200 (c2 := cells + 20) (s2 := slots + 240) ⟨by show cells + 10 + 0 ≤ _; omega, by show cells + 20 ≤ 601024; omega, by show slots + 140 + 0 ≤ _; omega, by show slots + 240 ≤ 7293034; omega⟩ (fun H locs hH => ?_)
      refine lv_istore (lv' := [(6, .int bb), (5, .int (0 : Int32)), (0, .ref b), (1, .ref x), (2, .ref y), (3, .ref z), (4, .int i)]) hx hb dL_law_203 hl (by decide) rfl (fun ls hl => ?_)
      refine lv_aload_n hx hb dL_law_205 rfl (lv_at hl 4 rfl) ?_
      refine p_cV (As := []) (b := y) (rest := []) (ci := 9) X hH (c_X8_thrown l G y _ _ h4 ht) mv_X8_thrown (Or.inl m_899) rfl hc9b (by decide) rfl hl.1 (Nat.le_of_ble_eq_true rfl) dL_law_206 (c2 := cells + 20) (s2 := slots + 240) ⟨by show cells + 20 + 0 ≤ _; omega, by show cells + 20 ≤ 601024; omega, by show slots + 240 + 0 ≤ _; omega, by show slots + 240 ≤ 7293034; omega⟩ (fun H locs hH => ?_)
      refine lv_iload hx hb dL_law_209 (lv_at hl 1 rfl) ?_
      refine lv_icmp_eq (tgt := 216) hx hb dL_law_211 (by decide) (fun _ => ?_) (fun z0 => absurd rfl z0)
      refine lv_iload hx hb dL_law_216 (lv_at hl 1 rfl) ?_
      refine lv_if_ne (tgt := 233) hx hb dL_law_218 (by decide) (fun z0 => absurd rfl z0) (fun _ => ?_)
      refine lv_aload_n hx hb dL_law_221 rfl (lv_at hl 5 rfl) ?_
      refine lv_iconst (v := 0) hx hb dL_law_222 (by decide) ?_
      have hf5 : rd (aJ h4 z 0) (fun w => some w) = some bb.toInt64 := by rw [haJ rfl]; rfl
      refine p_lald X hH hf5 dL_law_223 (fun w hw hf6 => ?_)
      cases hf6
      refine lv_iload hx hb dL_law_224 (lv_at hl 0 rfl) ?_
      refine lv_i2l (v := bb.toInt64) hx hb dL_law_226 rfl ?_
      refine W.lcmp hx hb dL_law_227 ?_
      refine lv_if_eq (tgt := 233) hx hb dL_law_228 (by decide) (fun _ => ?_) (fun z0 => absurd (lg_same _) z0)
      refine lv_goto (tgt := 1526) hx hb dL_law_233 (by decide) ?_
      exact kk h4 H locs ls hP hH (lv_sub hl [2, 3, 4, 5, 6] rfl)
    · obtain ⟨⟨u9, hc9⟩, bb, h3, hg, ⟨u9b, hc9b⟩, h4, ht, haJ, hP⟩ := hex E ho sz (Hx.lt hH)
      have hne := (hE E ho).2
      refine lv_istore (lv' := [(5, .int (cd_L_beginWind E)), (0, .ref b), (1, .ref x), (2, .ref y), (3, .ref z), (4, .int i)]) hx hb dL_law_171 hl (by decide) rfl (fun ls hl => ?_)
      refine lv_aload_n hx hb dL_law_173 rfl (lv_at hl 3 rfl) ?_
      refine lv_aload_n hx hb dL_law_174 rfl (lv_at hl 1 rfl) ?_
      refine lv_iload hx hb dL_law_175 (lv_at hl 5 rfl) ?_
      refine lv_iconst (v := 1) hx hb dL_law_177 (by decide) ?_
      refine lv_iadd hx hb dL_law_178 ?_
      refine p_sld X hH hX hbl hbA hL (z := i + (1 : Int32)) (j := j + 1) (by rw [hi]; exact nI_add j 1) (by omega) dL_law_179 ?_
      refine lv_aload_n hx hb dL_law_180 rfl (lv_at hl 1 rfl) ?_
      refine lv_iload hx hb dL_law_181 (lv_at hl 5 rfl) ?_
      refine lv_iconst (v := 2) hx hb dL_law_183 (by decide) ?_
      refine lv_iadd hx hb dL_law_184 ?_
      refine p_sld X hH hX hbl hbA hL (z := i + (2 : Int32)) (j := j + 2) (by rw [hi]; exact nI_add j 2) (by omega) dL_law_185 ?_
      refine lv_aload_n hx hb dL_law_186 rfl (lv_at hl 1 rfl) ?_
      refine lv_iload hx hb dL_law_187 (lv_at hl 5 rfl) ?_
      refine lv_iconst (v := 3) hx hb dL_law_189 (by decide) ?_
      refine lv_iadd hx hb dL_law_190 ?_
      refine p_sld X hH hX hbl hbA hL (z := i + (3 : Int32)) (j := j + 3) (by rw [hi]; exact nI_add j 3) (by omega) dL_law_191 ?_
      refine lv_if_eq (tgt := 199) hx hb dL_law_192 (by decide) (fun _ => ?_) (fun z0 => absurd hz z0)
      refine lv_iconst (v := 0) hx hb dL_law_199 (by decide) ?_
      refine p_cV (As := [.int (xs (j + 1)), .int (xs (j + 2)), .int (0 : Int32)]) (b := y) (rest := []) (ci := 9) X hH (c_X8_beginWind l G y (xs (j + 1)) (xs (j + 2)) (0 : Int32) _ bb h3 hg) mv_X8_beginWind (Or.inl m_903) rfl hc9 (by decide) rfl hl.1 (Nat.le_of_ble_eq_true rfl) dL_law_200 (c2 := cells + 20) (s2 := slots + 240) ⟨by show cells + 10 + 0 ≤ _; omega, by show cells + 20 ≤ 601024; omega, by show slots + 140 + 0 ≤ _; omega, by show slots + 240 ≤ 7293034; omega⟩ (fun H locs hH => ?_)
      refine lv_istore (lv' := [(6, .int bb), (5, .int (cd_L_beginWind E)), (0, .ref b), (1, .ref x), (2, .ref y), (3, .ref z), (4, .int i)]) hx hb dL_law_203 hl (by decide) rfl (fun ls hl => ?_)
      refine lv_aload_n hx hb dL_law_205 rfl (lv_at hl 4 rfl) ?_
      refine p_cV (As := []) (b := y) (rest := []) (ci := 9) X hH (c_X8_thrown l G y _ _ h4 ht) mv_X8_thrown (Or.inl m_899) rfl hc9b (by decide) rfl hl.1 (Nat.le_of_ble_eq_true rfl) dL_law_206 (c2 := cells + 20) (s2 := slots + 240) ⟨by show cells + 20 + 0 ≤ _; omega, by show cells + 20 ≤ 601024; omega, by show slots + 240 + 0 ≤ _; omega, by show slots + 240 ≤ 7293034; omega⟩ (fun H locs hH => ?_)
      refine lv_iload hx hb dL_law_209 (lv_at hl 1 rfl) ?_
      refine lv_icmp_eq (tgt := 216) hx hb dL_law_211 (by decide) (fun _ => ?_) (fun z0 => absurd rfl z0)
      refine lv_iload hx hb dL_law_216 (lv_at hl 1 rfl) ?_
      refine lv_if_ne (tgt := 233) hx hb dL_law_218 (by decide) (fun _ => ?_) (fun z0 => absurd z0 hne)
      refine lv_goto (tgt := 1526) hx hb dL_law_233 (by decide) ?_
      exact kk h4 H locs ls hP hH (lv_sub hl [2, 3, 4, 5, 6] rfl)
  · have hst := hst1 hz
    refine lv_aload_n hx hb dL_law_140 rfl (lv_at hl 1 rfl) ?_
    refine lv_aload_n hx hb dL_law_141 rfl (lv_at hl 0 rfl) ?_
    refine lv_iload hx hb dL_law_142 (lv_at hl 4 rfl) ?_
    refine lv_iconst (v := 1) hx hb dL_law_144 (by decide) ?_
    refine lv_iadd hx hb dL_law_145 ?_
    refine p_sld X hH hX hbl hbA hL (z := i + (1 : Int32)) (j := j + 1) (by rw [hi]; exact nI_add j 1) (by omega) dL_law_146 ?_
    refine lv_aload_n hx hb dL_law_147 rfl (lv_at hl 0 rfl) ?_
    refine lv_iload hx hb dL_law_148 (lv_at hl 4 rfl) ?_
    refine lv_iconst (v := 2) hx hb dL_law_150 (by decide) ?_
    refine lv_iadd hx hb dL_law_151 ?_
    refine p_sld X hH hX hbl hbA hL (z := i + (2 : Int32)) (j := j + 2) (by rw [hi]; exact nI_add j 2) (by omega) dL_law_152 ?_
    refine lv_aload_n hx hb dL_law_153 rfl (lv_at hl 0 rfl) ?_
    refine lv_iload hx hb dL_law_154 (lv_at hl 4 rfl) ?_
    refine lv_iconst (v := 3) hx hb dL_law_156 (by decide) ?_
    refine lv_iadd hx hb dL_law_157 ?_
    refine p_sld X hH hX hbl hbA hL (z := i + (3 : Int32)) (j := j + 3) (by rw [hi]; exact nI_add j 3) (by omega) dL_law_158 ?_
    refine lv_if_eq (tgt := 166) hx hb dL_law_159 (by decide) (fun z0 => absurd z0 hz) (fun _ => ?_)
    refine lv_iconst (v := 1) hx hb dL_law_162 (by decide) ?_
    refine lv_goto (tgt := 167) hx hb dL_law_163 (by decide) ?_
    refine lv_aload_n hx hb dL_law_167 rfl (lv_at hl 3 rfl) ?_
    obtain ⟨o, h1, hf, ⟨u7, hc7⟩, hE, hok, hex⟩ := hst
    have hout : ∃ h2, (∀ r, o = .inl r → aJs h1 z (0 : Int32) r.toInt64 = some h2 ∧ rfS G y z (fun h => f_X8_beginWind G y (xs (j + 1)) (xs (j + 2)) (1 : Int32) h) h2 0 P) := by
      cases o with
      | inl r => obtain ⟨h2, q1, q2⟩ := hok r rfl; exact ⟨h2, fun r2 e2 => by cases e2; exact ⟨q1, q2⟩⟩
      | inr E => exact ⟨h1, fun r2 e2 => by cases e2⟩
    obtain ⟨h2, hout⟩ := hout
    refine p_cW (As := [.ref x, .int (xs (j + 1)), .int (xs (j + 2)), .int (1 : Int32), .ref z]) (rest := []) X hH (c_L_beginWind l hfl G x (xs (j + 1)) (xs (j + 2)) (1 : Int32) z h o h1 hf hc7 h2 (fun r e2 => (hout r e2).1) (fun E e2 => (hE E e2).1)) mw_L_beginWind m_347 (by decide) rfl hl.1 (Nat.le_of_ble_eq_true rfl) dL_law_168 (c2 := cells + 10) (s2 := slots + 140) ⟨by show cells + 3 ≤ _; omega, by show cells + 10 ≤ 601024; omega, by show slots + 58 ≤ _; omega, by show slots + 140 ≤ 7293034; omega⟩ (fun r H locs ho hH => ?_) (fun E H locs sz ho hH => ?_)
    · obtain ⟨⟨u9, hc9⟩, bb, h3, hg, ⟨u9b, hc9b⟩, h4, ht, haJ, hP⟩ := (hout r ho).2
      refine lv_istore (lv' := [(5, .int (0 : Int32)), (0, .ref b), (1, .ref x), (2, .ref y), (3, .ref z), (4, .int i)]) hx hb dL_law_171 hl (by decide) rfl (fun ls hl => ?_)
      refine lv_aload_n hx hb dL_law_173 rfl (lv_at hl 3 rfl) ?_
      refine lv_aload_n hx hb dL_law_174 rfl (lv_at hl 1 rfl) ?_
      refine lv_iload hx hb dL_law_175 (lv_at hl 5 rfl) ?_
      refine lv_iconst (v := 1) hx hb dL_law_177 (by decide) ?_
      refine lv_iadd hx hb dL_law_178 ?_
      refine p_sld X hH hX hbl hbA hL (z := i + (1 : Int32)) (j := j + 1) (by rw [hi]; exact nI_add j 1) (by omega) dL_law_179 ?_
      refine lv_aload_n hx hb dL_law_180 rfl (lv_at hl 1 rfl) ?_
      refine lv_iload hx hb dL_law_181 (lv_at hl 5 rfl) ?_
      refine lv_iconst (v := 2) hx hb dL_law_183 (by decide) ?_
      refine lv_iadd hx hb dL_law_184 ?_
      refine p_sld X hH hX hbl hbA hL (z := i + (2 : Int32)) (j := j + 2) (by rw [hi]; exact nI_add j 2) (by omega) dL_law_185 ?_
      refine lv_aload_n hx hb dL_law_186 rfl (lv_at hl 1 rfl) ?_
      refine lv_iload hx hb dL_law_187 (lv_at hl 5 rfl) ?_
      refine lv_iconst (v := 3) hx hb dL_law_189 (by decide) ?_
      refine lv_iadd hx hb dL_law_190 ?_
      refine p_sld X hH hX hbl hbA hL (z := i + (3 : Int32)) (j := j + 3) (by rw [hi]; exact nI_add j 3) (by omega) dL_law_191 ?_
      refine lv_if_eq (tgt := 199) hx hb dL_law_192 (by decide) (fun z0 => absurd z0 hz) (fun _ => ?_)
      refine lv_iconst (v := 1) hx hb dL_law_195 (by decide) ?_
      refine lv_goto (tgt := 200) hx hb dL_law_196 (by decide) ?_
      refine p_cV (As := [.int (xs (j + 1)), .int (xs (j + 2)), .int (1 : Int32)]) (b := y) (rest := []) (ci := 9) X hH (c_X8_beginWind l G y (xs (j + 1)) (xs (j + 2)) (1 : Int32) _ bb h3 hg) mv_X8_beginWind (Or.inl m_903) rfl hc9 (by decide) rfl hl.1 (Nat.le_of_ble_eq_true rfl) dL_law_200 (c2 := cells + 20) (s2 := slots + 240) ⟨by show cells + 10 + 0 ≤ _; omega, by show cells + 20 ≤ 601024; omega, by show slots + 140 + 0 ≤ _; omega, by show slots + 240 ≤ 7293034; omega⟩ (fun H locs hH => ?_)
      refine lv_istore (lv' := [(6, .int bb), (5, .int (0 : Int32)), (0, .ref b), (1, .ref x), (2, .ref y), (3, .ref z), (4, .int i)]) hx hb dL_law_203 hl (by decide) rfl (fun ls hl => ?_)
      refine lv_aload_n hx hb dL_law_205 rfl (lv_at hl 4 rfl) ?_
      refine p_cV (As := []) (b := y) (rest := []) (ci := 9) X hH (c_X8_thrown l G y _ _ h4 ht) mv_X8_thrown (Or.inl m_899) rfl hc9b (by decide) rfl hl.1 (Nat.le_of_ble_eq_true rfl) dL_law_206 (c2 := cells + 20) (s2 := slots + 240) ⟨by show cells + 20 + 0 ≤ _; omega, by show cells + 20 ≤ 601024; omega, by show slots + 240 + 0 ≤ _; omega, by show slots + 240 ≤ 7293034; omega⟩ (fun H locs hH => ?_)
      refine lv_iload hx hb dL_law_209 (lv_at hl 1 rfl) ?_
      refine lv_icmp_eq (tgt := 216) hx hb dL_law_211 (by decide) (fun _ => ?_) (fun z0 => absurd rfl z0)
      refine lv_iload hx hb dL_law_216 (lv_at hl 1 rfl) ?_
      refine lv_if_ne (tgt := 233) hx hb dL_law_218 (by decide) (fun z0 => absurd rfl z0) (fun _ => ?_)
      refine lv_aload_n hx hb dL_law_221 rfl (lv_at hl 5 rfl) ?_
      refine lv_iconst (v := 0) hx hb dL_law_222 (by decide) ?_
      have hf5 : rd (aJ h4 z 0) (fun w => some w) = some bb.toInt64 := by rw [haJ rfl]; rfl
      refine p_lald X hH hf5 dL_law_223 (fun w hw hf6 => ?_)
      cases hf6
      refine lv_iload hx hb dL_law_224 (lv_at hl 0 rfl) ?_
      refine lv_i2l (v := bb.toInt64) hx hb dL_law_226 rfl ?_
      refine W.lcmp hx hb dL_law_227 ?_
      refine lv_if_eq (tgt := 233) hx hb dL_law_228 (by decide) (fun _ => ?_) (fun z0 => absurd (lg_same _) z0)
      refine lv_goto (tgt := 1526) hx hb dL_law_233 (by decide) ?_
      exact kk h4 H locs ls hP hH (lv_sub hl [2, 3, 4, 5, 6] rfl)
    · obtain ⟨⟨u9, hc9⟩, bb, h3, hg, ⟨u9b, hc9b⟩, h4, ht, haJ, hP⟩ := hex E ho sz (Hx.lt hH)
      have hne := (hE E ho).2
      refine lv_istore (lv' := [(5, .int (cd_L_beginWind E)), (0, .ref b), (1, .ref x), (2, .ref y), (3, .ref z), (4, .int i)]) hx hb dL_law_171 hl (by decide) rfl (fun ls hl => ?_)
      refine lv_aload_n hx hb dL_law_173 rfl (lv_at hl 3 rfl) ?_
      refine lv_aload_n hx hb dL_law_174 rfl (lv_at hl 1 rfl) ?_
      refine lv_iload hx hb dL_law_175 (lv_at hl 5 rfl) ?_
      refine lv_iconst (v := 1) hx hb dL_law_177 (by decide) ?_
      refine lv_iadd hx hb dL_law_178 ?_
      refine p_sld X hH hX hbl hbA hL (z := i + (1 : Int32)) (j := j + 1) (by rw [hi]; exact nI_add j 1) (by omega) dL_law_179 ?_
      refine lv_aload_n hx hb dL_law_180 rfl (lv_at hl 1 rfl) ?_
      refine lv_iload hx hb dL_law_181 (lv_at hl 5 rfl) ?_
      refine lv_iconst (v := 2) hx hb dL_law_183 (by decide) ?_
      refine lv_iadd hx hb dL_law_184 ?_
      refine p_sld X hH hX hbl hbA hL (z := i + (2 : Int32)) (j := j + 2) (by rw [hi]; exact nI_add j 2) (by omega) dL_law_185 ?_
      refine lv_aload_n hx hb dL_law_186 rfl (lv_at hl 1 rfl) ?_
      refine lv_iload hx hb dL_law_187 (lv_at hl 5 rfl) ?_
      refine lv_iconst (v := 3) hx hb dL_law_189 (by decide) ?_
      refine lv_iadd hx hb dL_law_190 ?_
      refine p_sld X hH hX hbl hbA hL (z := i + (3 : Int32)) (j := j + 3) (by rw [hi]; exact nI_add j 3) (by omega) dL_law_191 ?_
      refine lv_if_eq (tgt := 199) hx hb dL_law_192 (by decide) (fun z0 => absurd z0 hz) (fun _ => ?_)
      refine lv_iconst (v := 1) hx hb dL_law_195 (by decide) ?_
      refine lv_goto (tgt := 200) hx hb dL_law_196 (by decide) ?_
      refine p_cV (As := [.int (xs (j + 1)), .int (xs (j + 2)), .int (1 : Int32)]) (b := y) (rest := []) (ci := 9) X hH (c_X8_beginWind l G y (xs (j + 1)) (xs (j + 2)) (1 : Int32) _ bb h3 hg) mv_X8_beginWind (Or.inl m_903) rfl hc9 (by decide) rfl hl.1 (Nat.le_of_ble_eq_true rfl) dL_law_200 (c2 := cells + 20) (s2 := slots + 240) ⟨by show cells + 10 + 0 ≤ _; omega, by show cells + 20 ≤ 601024; omega, by show slots + 140 + 0 ≤ _; omega, by show slots + 240 ≤ 7293034; omega⟩ (fun H locs hH => ?_)
      refine lv_istore (lv' := [(6, .int bb), (5, .int (cd_L_beginWind E)), (0, .ref b), (1, .ref x), (2, .ref y), (3, .ref z), (4, .int i)]) hx hb dL_law_203 hl (by decide) rfl (fun ls hl => ?_)
      refine lv_aload_n hx hb dL_law_205 rfl (lv_at hl 4 rfl) ?_
      refine p_cV (As := []) (b := y) (rest := []) (ci := 9) X hH (c_X8_thrown l G y _ _ h4 ht) mv_X8_thrown (Or.inl m_899) rfl hc9b (by decide) rfl hl.1 (Nat.le_of_ble_eq_true rfl) dL_law_206 (c2 := cells + 20) (s2 := slots + 240) ⟨by show cells + 20 + 0 ≤ _; omega, by show cells + 20 ≤ 601024; omega, by show slots + 240 + 0 ≤ _; omega, by show slots + 240 ≤ 7293034; omega⟩ (fun H locs hH => ?_)
      refine lv_iload hx hb dL_law_209 (lv_at hl 1 rfl) ?_
      refine lv_icmp_eq (tgt := 216) hx hb dL_law_211 (by decide) (fun _ => ?_) (fun z0 => absurd rfl z0)
      refine lv_iload hx hb dL_law_216 (lv_at hl 1 rfl) ?_
      refine lv_if_ne (tgt := 233) hx hb dL_law_218 (by decide) (fun _ => ?_) (fun z0 => absurd z0 hne)
      refine lv_goto (tgt := 1526) hx hb dL_law_233 (by decide) ?_
      exact kk h4 H locs ls hP hH (lv_sub hl [2, 3, 4, 5, 6] rfl)
abbrev okE_L_addWind : String → Prop := fun E => E = "java/lang/IllegalArgumentException" ∨ E = "java/lang/IllegalStateException"
set_option maxRecDepth 100000 in
set_option maxHeartbeats 4000000 in
theorem lc_addWind (X : Cx G p s m args meth c cL_law 9 "VaneHouseLaw" meth.name ret) (hX : va_X b L xs s s.heap) (hbl : b < s.heap.size) (hbA : ¬ gB G ≤ b) (hL : L ≤ 3584) (hfl : l.stackTraces = false) {x y z : Nat} {i : Int32} {j : Nat} (hi : i = nI j) (hj : j + 7 ≤ L) (P : PH → Prop) (hH : Hx G s h H locs) (hl : lv_has ls 9 [(0, .ref b), (1, .ref x), (2, .ref y), (3, .ref z), (4, .int i)]) (hst0 : xs (j + 3) = 0 → stX G x y z (f_X6_addWind G x (xs (j + 1)) (xs (j + 2)) (0 : Int32) h) okE_L_addWind cd_L_addWind (fun h => f_X8_addWind G y (xs (j + 1)) (xs (j + 2)) (0 : Int32) h) h P) (hst1 : ¬ xs (j + 3) = 0 → stX G x y z (f_X6_addWind G x (xs (j + 1)) (xs (j + 2)) (1 : Int32) h) okE_L_addWind cd_L_addWind (fun h => f_X8_addWind G y (xs (j + 1)) (xs (j + 2)) (1 : Int32) h) h P) (hcl : cells + 20 ≤ 601024) (hsl : slots + 240 ≤ 7293034)
    (kk : ∀ (h' : PH) (H' : Heap) (locs' : List Loc) (ls' : Array Slot), P h' → Hx G s h' H' locs' → lv_has ls' 9 [(0, .ref b), (1, .ref x), (2, .ref y), (3, .ref z), (4, .int i)] → W p l e room_1 s m args below meth c H' locs' (cells + 20) (slots + 240) Q (F0 m 1526 ls' [])) : W p l e room_1 s m args below meth c H locs cells slots Q (F0 m 236 ls []) := by
  have hx := X.1
  have hb := X.2.1
  by_cases hz : xs (j + 3) = 0
  · have hst := hst0 hz
    refine lv_aload_n hx hb dL_law_236 rfl (lv_at hl 1 rfl) ?_
    refine lv_aload_n hx hb dL_law_237 rfl (lv_at hl 0 rfl) ?_
    refine lv_iload hx hb dL_law_238 (lv_at hl 4 rfl) ?_
    refine lv_iconst (v := 1) hx hb dL_law_240 (by decide) ?_
    refine lv_iadd hx hb dL_law_241 ?_
    refine p_sld X hH hX hbl hbA hL (z := i + (1 : Int32)) (j := j + 1) (by rw [hi]; exact nI_add j 1) (by omega) dL_law_242 ?_
    refine lv_aload_n hx hb dL_law_243 rfl (lv_at hl 0 rfl) ?_
    refine lv_iload hx hb dL_law_244 (lv_at hl 4 rfl) ?_
    refine lv_iconst (v := 2) hx hb dL_law_246 (by decide) ?_
    refine lv_iadd hx hb dL_law_247 ?_
    refine p_sld X hH hX hbl hbA hL (z := i + (2 : Int32)) (j := j + 2) (by rw [hi]; exact nI_add j 2) (by omega) dL_law_248 ?_
    refine lv_aload_n hx hb dL_law_249 rfl (lv_at hl 0 rfl) ?_
    refine lv_iload hx hb dL_law_250 (lv_at hl 4 rfl) ?_
    refine lv_iconst (v := 3) hx hb dL_law_252 (by decide) ?_
    refine lv_iadd hx hb dL_law_253 ?_
    refine p_sld X hH hX hbl hbA hL (z := i + (3 : Int32)) (j := j + 3) (by rw [hi]; exact nI_add j 3) (by omega) dL_law_254 ?_
    refine lv_if_eq (tgt := 262) hx hb dL_law_255 (by decide) (fun _ => ?_) (fun z0 => absurd hz z0)
    refine lv_iconst (v := 0) hx hb dL_law_262 (by decide) ?_
    refine lv_aload_n hx hb dL_law_263 rfl (lv_at hl 3 rfl) ?_
    obtain ⟨o, h1, hf, ⟨u7, hc7⟩, hE, hok, hex⟩ := hst
    have hout : ∃ h2, (∀ r, o = .inl r → aJs h1 z (0 : Int32) r.toInt64 = some h2 ∧ rfS G y z (fun h => f_X8_addWind G y (xs (j + 1)) (xs (j + 2)) (0 : Int32) h) h2 0 P) := by
      cases o with
      | inl r => obtain ⟨h2, q1, q2⟩ := hok r rfl; exact ⟨h2, fun r2 e2 => by cases e2; exact ⟨q1, q2⟩⟩
      | inr E => exact ⟨h1, fun r2 e2 => by cases e2⟩
    obtain ⟨h2, hout⟩ := hout
    refine p_cW (As := [.ref x, .int (xs (j + 1)), .int (xs (j + 2)), .int (0 : Int32), .ref z]) (rest := []) X hH (c_L_addWind l hfl G x (xs (j + 1)) (xs (j + 2)) (0 : Int32) z h o h1 hf hc7 h2 (fun r e2 => (hout r e2).1) (fun E e2 => (hE E e2).1)) mw_L_addWind m_433 (by decide) rfl hl.1 (Nat.le_of_ble_eq_true rfl) dL_law_264 (c2 := cells + 10) (s2 := slots + 140) ⟨by show cells + 3 ≤ _; omega, by show cells + 10 ≤ 601024; omega, by show slots + 58 ≤ _; omega, by show slots + 140 ≤ 7293034; omega⟩ (fun r H locs ho hH => ?_) (fun E H locs sz ho hH => ?_)
    · obtain ⟨⟨u9, hc9⟩, bb, h3, hg, ⟨u9b, hc9b⟩, h4, ht, haJ, hP⟩ := (hout r ho).2
      refine lv_istore (lv' := [(5, .int (0 : Int32)), (0, .ref b), (1, .ref x), (2, .ref y), (3, .ref z), (4, .int i)]) hx hb dL_law_267 hl (by decide) rfl (fun ls hl => ?_)
      refine lv_aload_n hx hb dL_law_269 rfl (lv_at hl 3 rfl) ?_
      refine lv_aload_n hx hb dL_law_270 rfl (lv_at hl 1 rfl) ?_
      refine lv_iload hx hb dL_law_271 (lv_at hl 5 rfl) ?_
      refine lv_iconst (v := 1) hx hb dL_law_273 (by decide) ?_
      refine lv_iadd hx hb dL_law_274 ?_
      refine p_sld X hH hX hbl hbA hL (z := i + (1 : Int32)) (j := j + 1) (by rw [hi]; exact nI_add j 1) (by omega) dL_law_275 ?_
      refine lv_aload_n hx hb dL_law_276 rfl (lv_at hl 1 rfl) ?_
      refine lv_iload hx hb dL_law_277 (lv_at hl 5 rfl) ?_
      refine lv_iconst (v := 2) hx hb dL_law_279 (by decide) ?_
      refine lv_iadd hx hb dL_law_280 ?_
      refine p_sld X hH hX hbl hbA hL (z := i + (2 : Int32)) (j := j + 2) (by rw [hi]; exact nI_add j 2) (by omega) dL_law_281 ?_
      refine lv_aload_n hx hb dL_law_282 rfl (lv_at hl 1 rfl) ?_
      refine lv_iload hx hb dL_law_283 (lv_at hl 5 rfl) ?_
      refine lv_iconst (v := 3) hx hb dL_law_285 (by decide) ?_
      refine lv_iadd hx hb dL_law_286 ?_
      refine p_sld X hH hX hbl hbA hL (z := i + (3 : Int32)) (j := j + 3) (by rw [hi]; exact nI_add j 3) (by omega) dL_law_287 ?_
      refine lv_if_eq (tgt := 295) hx hb dL_law_288 (by decide) (fun _ => ?_) (fun z0 => absurd hz z0)
      refine lv_iconst (v := 0) hx hb dL_law_295 (by decide) ?_
      refine p_cV (As := [.int (xs (j + 1)), .int (xs (j + 2)), .int (0 : Int32)]) (b := y) (rest := []) (ci := 9) X hH (c_X8_addWind l G y (xs (j + 1)) (xs (j + 2)) (0 : Int32) _ bb h3 hg) mv_X8_addWind (Or.inl m_918) rfl hc9 (by decide) rfl hl.1 (Nat.le_of_ble_eq_true rfl) dL_law_296 (c2 := cells + 20) (s2 := slots + 240) ⟨by show cells + 10 + 0 ≤ _; omega, by show cells + 20 ≤ 601024; omega, by show slots + 140 + 0 ≤ _; omega, by show slots + 240 ≤ 7293034; omega⟩ (fun H locs hH => ?_)
      refine lv_istore (lv' := [(6, .int bb), (5, .int (0 : Int32)), (0, .ref b), (1, .ref x), (2, .ref y), (3, .ref z), (4, .int i)]) hx hb dL_law_299 hl (by decide) rfl (fun ls hl => ?_)
      refine lv_aload_n hx hb dL_law_301 rfl (lv_at hl 4 rfl) ?_
      refine p_cV (As := []) (b := y) (rest := []) (ci := 9) X hH (c_X8_thrown l G y _ _ h4 ht) mv_X8_thrown (Or.inl m_899) rfl hc9b (by decide) rfl hl.1 (Nat.le_of_ble_eq_true rfl) dL_law_302 (c2 := cells + 20) (s2 := slots + 240) ⟨by show cells + 20 + 0 ≤ _; omega, by show cells + 20 ≤ 601024; omega, by show slots + 240 + 0 ≤ _; omega, by show slots + 240 ≤ 7293034; omega⟩ (fun H locs hH => ?_)
      refine lv_iload hx hb dL_law_305 (lv_at hl 1 rfl) ?_
      refine lv_icmp_eq (tgt := 312) hx hb dL_law_307 (by decide) (fun _ => ?_) (fun z0 => absurd rfl z0)
      refine lv_iload hx hb dL_law_312 (lv_at hl 1 rfl) ?_
      refine lv_if_ne (tgt := 329) hx hb dL_law_314 (by decide) (fun z0 => absurd rfl z0) (fun _ => ?_)
      refine lv_aload_n hx hb dL_law_317 rfl (lv_at hl 5 rfl) ?_
      refine lv_iconst (v := 0) hx hb dL_law_318 (by decide) ?_
      have hf5 : rd (aJ h4 z 0) (fun w => some w) = some bb.toInt64 := by rw [haJ rfl]; rfl
      refine p_lald X hH hf5 dL_law_319 (fun w hw hf6 => ?_)
      cases hf6
      refine lv_iload hx hb dL_law_320 (lv_at hl 0 rfl) ?_
      refine lv_i2l (v := bb.toInt64) hx hb dL_law_322 rfl ?_
      refine W.lcmp hx hb dL_law_323 ?_
      refine lv_if_eq (tgt := 329) hx hb dL_law_324 (by decide) (fun _ => ?_) (fun z0 => absurd (lg_same _) z0)
      refine lv_goto (tgt := 1526) hx hb dL_law_329 (by decide) ?_
      exact kk h4 H locs ls hP hH (lv_sub hl [2, 3, 4, 5, 6] rfl)
    · obtain ⟨⟨u9, hc9⟩, bb, h3, hg, ⟨u9b, hc9b⟩, h4, ht, haJ, hP⟩ := hex E ho sz (Hx.lt hH)
      have hne := (hE E ho).2
      refine lv_istore (lv' := [(5, .int (cd_L_addWind E)), (0, .ref b), (1, .ref x), (2, .ref y), (3, .ref z), (4, .int i)]) hx hb dL_law_267 hl (by decide) rfl (fun ls hl => ?_)
      refine lv_aload_n hx hb dL_law_269 rfl (lv_at hl 3 rfl) ?_
      refine lv_aload_n hx hb dL_law_270 rfl (lv_at hl 1 rfl) ?_
      refine lv_iload hx hb dL_law_271 (lv_at hl 5 rfl) ?_
      refine lv_iconst (v := 1) hx hb dL_law_273 (by decide) ?_
      refine lv_iadd hx hb dL_law_274 ?_
      refine p_sld X hH hX hbl hbA hL (z := i + (1 : Int32)) (j := j + 1) (by rw [hi]; exact nI_add j 1) (by omega) dL_law_275 ?_
      refine lv_aload_n hx hb dL_law_276 rfl (lv_at hl 1 rfl) ?_
      refine lv_iload hx hb dL_law_277 (lv_at hl 5 rfl) ?_
      refine lv_iconst (v := 2) hx hb dL_law_279 (by decide) ?_
      refine lv_iadd hx hb dL_law_280 ?_
      refine p_sld X hH hX hbl hbA hL (z := i + (2 : Int32)) (j := j + 2) (by rw [hi]; exact nI_add j 2) (by omega) dL_law_281 ?_
      refine lv_aload_n hx hb dL_law_282 rfl (lv_at hl 1 rfl) ?_
      refine lv_iload hx hb dL_law_283 (lv_at hl 5 rfl) ?_
      refine lv_iconst (v := 3) hx hb dL_law_285 (by decide) ?_
      refine lv_iadd hx hb dL_law_286 ?_
      refine p_sld X hH hX hbl hbA hL (z := i + (3 : Int32)) (j := j + 3) (by rw [hi]; exact nI_add j 3) (by omega) dL_law_287 ?_
      refine lv_if_eq (tgt := 295) hx hb dL_law_288 (by decide) (fun _ => ?_) (fun z0 => absurd hz z0)
      refine lv_iconst (v := 0) hx hb dL_law_295 (by decide) ?_
      refine p_cV (As := [.int (xs (j + 1)), .int (xs (j + 2)), .int (0 : Int32)]) (b := y) (rest := []) (ci := 9) X hH (c_X8_addWind l G y (xs (j + 1)) (xs (j + 2)) (0 : Int32) _ bb h3 hg) mv_X8_addWind (Or.inl m_918) rfl hc9 (by decide) rfl hl.1 (Nat.le_of_ble_eq_true rfl) dL_law_296 (c2 := cells + 20) (s2 := slots + 240) ⟨by show cells + 10 + 0 ≤ _; omega, by show cells + 20 ≤ 601024; omega, by show slots + 140 + 0 ≤ _; omega, by show slots + 240 ≤ 7293034; omega⟩ (fun H locs hH => ?_)
      refine lv_istore (lv' := [(6, .int bb), (5, .int (cd_L_addWind E)), (0, .ref b), (1, .ref x), (2, .ref y), (3, .ref z), (4, .int i)]) hx hb dL_law_299 hl (by decide) rfl (fun ls hl => ?_)
      refine lv_aload_n hx hb dL_law_301 rfl (lv_at hl 4 rfl) ?_
      refine p_cV (As := []) (b := y) (rest := []) (ci := 9) X hH (c_X8_thrown l G y _ _ h4 ht) mv_X8_thrown (Or.inl m_899) rfl hc9b (by decide) rfl hl.1 (Nat.le_of_ble_eq_true rfl) dL_law_302 (c2 := cells + 20) (s2 := slots + 240) ⟨by show cells + 20 + 0 ≤ _; omega, by show cells + 20 ≤ 601024; omega, by show slots + 240 + 0 ≤ _; omega, by show slots + 240 ≤ 7293034; omega⟩ (fun H locs hH => ?_)
      refine lv_iload hx hb dL_law_305 (lv_at hl 1 rfl) ?_
      refine lv_icmp_eq (tgt := 312) hx hb dL_law_307 (by decide) (fun _ => ?_) (fun z0 => absurd rfl z0)
      refine lv_iload hx hb dL_law_312 (lv_at hl 1 rfl) ?_
      refine lv_if_ne (tgt := 329) hx hb dL_law_314 (by decide) (fun _ => ?_) (fun z0 => absurd z0 hne)
      refine lv_goto (tgt := 1526) hx hb dL_law_329 (by decide) ?_
      exact kk h4 H locs ls hP hH (lv_sub hl [2, 3, 4, 5, 6] rfl)
  · have hst := hst1 hz
    refine lv_aload_n hx hb dL_law_236 rfl (lv_at hl 1 rfl) ?_
    refine lv_aload_n hx hb dL_law_237 rfl (lv_at hl 0 rfl) ?_
    refine lv_iload hx hb dL_law_238 (lv_at hl 4 rfl) ?_
    refine lv_iconst (v := 1) hx hb dL_law_240 (by decide) ?_
    refine lv_iadd hx hb dL_law_241 ?_
    refine p_sld X hH hX hbl hbA hL (z := i + (1 : Int32)) (j := j + 1) (by rw [hi]; exact nI_add j 1) (by omega) dL_law_242 ?_
    refine lv_aload_n hx hb dL_law_243 rfl (lv_at hl 0 rfl) ?_
    refine lv_iload hx hb dL_law_244 (lv_at hl 4 rfl) ?_
    refine lv_iconst (v := 2) hx hb dL_law_246 (by decide) ?_
    refine lv_iadd hx hb dL_law_247 ?_
    refine p_sld X hH hX hbl hbA hL (z := i + (2 : Int32)) (j := j + 2) (by rw [hi]; exact nI_add j 2) (by omega) dL_law_248 ?_
    refine lv_aload_n hx hb dL_law_249 rfl (lv_at hl 0 rfl) ?_
    refine lv_iload hx hb dL_law_250 (lv_at hl 4 rfl) ?_
    refine lv_iconst (v := 3) hx hb dL_law_252 (by decide) ?_
    refine lv_iadd hx hb dL_law_253 ?_
    refine p_sld X hH hX hbl hbA hL (z := i + (3 : Int32)) (j := j + 3) (by rw [hi]; exact nI_add j 3) (by omega) dL_law_254 ?_
    refine lv_if_eq (tgt := 262) hx hb dL_law_255 (by decide) (fun z0 => absurd z0 hz) (fun _ => ?_)
    refine lv_iconst (v := 1) hx hb dL_law_258 (by decide) ?_
    refine lv_goto (tgt := 263) hx hb dL_law_259 (by decide) ?_
    refine lv_aload_n hx hb dL_law_263 rfl (lv_at hl 3 rfl) ?_
    obtain ⟨o, h1, hf, ⟨u7, hc7⟩, hE, hok, hex⟩ := hst
    have hout : ∃ h2, (∀ r, o = .inl r → aJs h1 z (0 : Int32) r.toInt64 = some h2 ∧ rfS G y z (fun h => f_X8_addWind G y (xs (j + 1)) (xs (j + 2)) (1 : Int32) h) h2 0 P) := by
      cases o with
      | inl r => obtain ⟨h2, q1, q2⟩ := hok r rfl; exact ⟨h2, fun r2 e2 => by cases e2; exact ⟨q1, q2⟩⟩
      | inr E => exact ⟨h1, fun r2 e2 => by cases e2⟩
    obtain ⟨h2, hout⟩ := hout
    refine p_cW (As := [.ref x, .int (xs (j + 1)), .int (xs (j + 2)), .int (1 : Int32), .ref z]) (rest := []) X hH (c_L_addWind l hfl G x (xs (j + 1)) (xs (j + 2)) (1 : Int32) z h o h1 hf hc7 h2 (fun r e2 => (hout r e2).1) (fun E e2 => (hE E e2).1)) mw_L_addWind m_433 (by decide) rfl hl.1 (Nat.le_of_ble_eq_true rfl) dL_law_264 (c2 := cells + 10) (s2 := slots + 140) ⟨by show cells + 3 ≤ _; omega, by show cells + 10 ≤ 601024; omega, by show slots + 58 ≤ _; omega, by show slots + 140 ≤ 7293034; omega⟩ (fun r H locs ho hH => ?_) (fun E H locs sz ho hH => ?_)
    · obtain ⟨⟨u9, hc9⟩, bb, h3, hg, ⟨u9b, hc9b⟩, h4, ht, haJ, hP⟩ := (hout r ho).2
      refine lv_istore (lv' := [(5, .int (0 : Int32)), (0, .ref b), (1, .ref x), (2, .ref y), (3, .ref z), (4, .int i)]) hx hb dL_law_267 hl (by decide) rfl (fun ls hl => ?_)
      refine lv_aload_n hx hb dL_law_269 rfl (lv_at hl 3 rfl) ?_
      refine lv_aload_n hx hb dL_law_270 rfl (lv_at hl 1 rfl) ?_
      refine lv_iload hx hb dL_law_271 (lv_at hl 5 rfl) ?_
      refine lv_iconst (v := 1) hx hb dL_law_273 (by decide) ?_
      refine lv_iadd hx hb dL_law_274 ?_
      refine p_sld X hH hX hbl hbA hL (z := i + (1 : Int32)) (j := j + 1) (by rw [hi]; exact nI_add j 1) (by omega) dL_law_275 ?_
      refine lv_aload_n hx hb dL_law_276 rfl (lv_at hl 1 rfl) ?_
      refine lv_iload hx hb dL_law_277 (lv_at hl 5 rfl) ?_
      refine lv_iconst (v := 2) hx hb dL_law_279 (by decide) ?_
      refine lv_iadd hx hb dL_law_280 ?_
      refine p_sld X hH hX hbl hbA hL (z := i + (2 : Int32)) (j := j + 2) (by rw [hi]; exact nI_add j 2) (by omega) dL_law_281 ?_
      refine lv_aload_n hx hb dL_law_282 rfl (lv_at hl 1 rfl) ?_
      refine lv_iload hx hb dL_law_283 (lv_at hl 5 rfl) ?_
      refine lv_iconst (v := 3) hx hb dL_law_285 (by decide) ?_
      refine lv_iadd hx hb dL_law_286 ?_
      refine p_sld X hH hX hbl hbA hL (z := i + (3 : Int32)) (j := j + 3) (by rw [hi]; exact nI_add j 3) (by omega) dL_law_287 ?_
      refine lv_if_eq (tgt := 295) hx hb dL_law_288 (by decide) (fun z0 => absurd z0 hz) (fun _ => ?_)
      refine lv_iconst (v := 1) hx hb dL_law_291 (by decide) ?_
      refine lv_goto (tgt := 296) hx hb dL_law_292 (by decide) ?_
      refine p_cV (As := [.int (xs (j + 1)), .int (xs (j + 2)), .int (1 : Int32)]) (b := y) (rest := []) (ci := 9) X hH (c_X8_addWind l G y (xs (j + 1)) (xs (j + 2)) (1 : Int32) _ bb h3 hg) mv_X8_addWind (Or.inl m_918) rfl hc9 (by decide) rfl hl.1 (Nat.le_of_ble_eq_true rfl) dL_law_296 (c2 := cells + 20) (s2 := slots + 240) ⟨by show cells + 10 + 0 ≤ _; omega, by show cells + 20 ≤ 601024; omega, by show slots + 140 + 0 ≤ _; omega, by show slots + 240 ≤ 7293034; omega⟩ (fun H locs hH => ?_)
      refine lv_istore (lv' := [(6, .int bb), (5, .int (0 : Int32)), (0, .ref b), (1, .ref x), (2, .ref y), (3, .ref z), (4, .int i)]) hx hb dL_law_299 hl (by decide) rfl (fun ls hl => ?_)
      refine lv_aload_n hx hb dL_law_301 rfl (lv_at hl 4 rfl) ?_
      refine p_cV (As := []) (b := y) (rest := []) (ci := 9) X hH (c_X8_thrown l G y _ _ h4 ht) mv_X8_thrown (Or.inl m_899) rfl hc9b (by decide) rfl hl.1 (Nat.le_of_ble_eq_true rfl) dL_law_302 (c2 := cells + 20) (s2 := slots + 240) ⟨by show cells + 20 + 0 ≤ _; omega, by show cells + 20 ≤ 601024; omega, by show slots + 240 + 0 ≤ _; omega, by show slots + 240 ≤ 7293034; omega⟩ (fun H locs hH => ?_)
      refine lv_iload hx hb dL_law_305 (lv_at hl 1 rfl) ?_
      refine lv_icmp_eq (tgt := 312) hx hb dL_law_307 (by decide) (fun _ => ?_) (fun z0 => absurd rfl z0)
      refine lv_iload hx hb dL_law_312 (lv_at hl 1 rfl) ?_
      refine lv_if_ne (tgt := 329) hx hb dL_law_314 (by decide) (fun z0 => absurd rfl z0) (fun _ => ?_)
      refine lv_aload_n hx hb dL_law_317 rfl (lv_at hl 5 rfl) ?_
      refine lv_iconst (v := 0) hx hb dL_law_318 (by decide) ?_
      have hf5 : rd (aJ h4 z 0) (fun w => some w) = some bb.toInt64 := by rw [haJ rfl]; rfl
      refine p_lald X hH hf5 dL_law_319 (fun w hw hf6 => ?_)
      cases hf6
      refine lv_iload hx hb dL_law_320 (lv_at hl 0 rfl) ?_
      refine lv_i2l (v := bb.toInt64) hx hb dL_law_322 rfl ?_
      refine W.lcmp hx hb dL_law_323 ?_
      refine lv_if_eq (tgt := 329) hx hb dL_law_324 (by decide) (fun _ => ?_) (fun z0 => absurd (lg_same _) z0)
      refine lv_goto (tgt := 1526) hx hb dL_law_329 (by decide) ?_
      exact kk h4 H locs ls hP hH (lv_sub hl [2, 3, 4, 5, 6] rfl)
    · obtain ⟨⟨u9, hc9⟩, bb, h3, hg, ⟨u9b, hc9b⟩, h4, ht, haJ, hP⟩ := hex E ho sz (Hx.lt hH)
      have hne := (hE E ho).2
      refine lv_istore (lv' := [(5, .int (cd_L_addWind E)), (0, .ref b), (1, .ref x), (2, .ref y), (3, .ref z), (4, .int i)]) hx hb dL_law_267 hl (by decide) rfl (fun ls hl => ?_)
      refine lv_aload_n hx hb dL_law_269 rfl (lv_at hl 3 rfl) ?_
      refine lv_aload_n hx hb dL_law_270 rfl (lv_at hl 1 rfl) ?_
      refine lv_iload hx hb dL_law_271 (lv_at hl 5 rfl) ?_
      refine lv_iconst (v := 1) hx hb dL_law_273 (by decide) ?_
      refine lv_iadd hx hb dL_law_274 ?_
      refine p_sld X hH hX hbl hbA hL (z := i + (1 : Int32)) (j := j + 1) (by rw [hi]; exact nI_add j 1) (by omega) dL_law_275 ?_
      refine lv_aload_n hx hb dL_law_276 rfl (lv_at hl 1 rfl) ?_
      refine lv_iload hx hb dL_law_277 (lv_at hl 5 rfl) ?_
      refine lv_iconst (v := 2) hx hb dL_law_279 (by decide) ?_
      refine lv_iadd hx hb dL_law_280 ?_
      refine p_sld X hH hX hbl hbA hL (z := i + (2 : Int32)) (j := j + 2) (by rw [hi]; exact nI_add j 2) (by omega) dL_law_281 ?_
      refine lv_aload_n hx hb dL_law_282 rfl (lv_at hl 1 rfl) ?_
      refine lv_iload hx hb dL_law_283 (lv_at hl 5 rfl) ?_
      refine lv_iconst (v := 3) hx hb dL_law_285 (by decide) ?_
      refine lv_iadd hx hb dL_law_286 ?_
      refine p_sld X hH hX hbl hbA hL (z := i + (3 : Int32)) (j := j + 3) (by rw [hi]; exact nI_add j 3) (by omega) dL_law_287 ?_
      refine lv_if_eq (tgt := 295) hx hb dL_law_288 (by decide) (fun z0 => absurd z0 hz) (fun _ => ?_)
      refine lv_iconst (v := 1) hx hb dL_law_291 (by decide) ?_
      refine lv_goto (tgt := 296) hx hb dL_law_292 (by decide) ?_
      refine p_cV (As := [.int (xs (j + 1)), .int (xs (j + 2)), .int (1 : Int32)]) (b := y) (rest := []) (ci := 9) X hH (c_X8_addWind l G y (xs (j + 1)) (xs (j + 2)) (1 : Int32) _ bb h3 hg) mv_X8_addWind (Or.inl m_918) rfl hc9 (by decide) rfl hl.1 (Nat.le_of_ble_eq_true rfl) dL_law_296 (c2 := cells + 20) (s2 := slots + 240) ⟨by show cells + 10 + 0 ≤ _; omega, by show cells + 20 ≤ 601024; omega, by show slots + 140 + 0 ≤ _; omega, by show slots + 240 ≤ 7293034; omega⟩ (fun H locs hH => ?_)
      refine lv_istore (lv' := [(6, .int bb), (5, .int (cd_L_addWind E)), (0, .ref b), (1, .ref x), (2, .ref y), (3, .ref z), (4, .int i)]) hx hb dL_law_299 hl (by decide) rfl (fun ls hl => ?_)
      refine lv_aload_n hx hb dL_law_301 rfl (lv_at hl 4 rfl) ?_
      refine p_cV (As := []) (b := y) (rest := []) (ci := 9) X hH (c_X8_thrown l G y _ _ h4 ht) mv_X8_thrown (Or.inl m_899) rfl hc9b (by decide) rfl hl.1 (Nat.le_of_ble_eq_true rfl) dL_law_302 (c2 := cells + 20) (s2 := slots + 240) ⟨by show cells + 20 + 0 ≤ _; omega, by show cells + 20 ≤ 601024; omega, by show slots + 240 + 0 ≤ _; omega, by show slots + 240 ≤ 7293034; omega⟩ (fun H locs hH => ?_)
      refine lv_iload hx hb dL_law_305 (lv_at hl 1 rfl) ?_
      refine lv_icmp_eq (tgt := 312) hx hb dL_law_307 (by decide) (fun _ => ?_) (fun z0 => absurd rfl z0)
      refine lv_iload hx hb dL_law_312 (lv_at hl 1 rfl) ?_
      refine lv_if_ne (tgt := 329) hx hb dL_law_314 (by decide) (fun _ => ?_) (fun z0 => absurd z0 hne)
      refine lv_goto (tgt := 1526) hx hb dL_law_329 (by decide) ?_
      exact kk h4 H locs ls hP hH (lv_sub hl [2, 3, 4, 5, 6] rfl)
abbrev okE_L_wind : String → Prop := fun E => E = "java/lang/IllegalArgumentException" ∨ E = "java/lang/IndexOutOfBoundsException"
set_option maxRecDepth 100000 in
set_option maxHeartbeats 4000000 in
theorem lc_wind (X : Cx G p s m args meth c cL_law 9 "VaneHouseLaw" meth.name ret) (hX : va_X b L xs s s.heap) (hbl : b < s.heap.size) (hbA : ¬ gB G ≤ b) (hL : L ≤ 3584) (hfl : l.stackTraces = false) {x y z : Nat} {i : Int32} {j : Nat} (hi : i = nI j) (hj : j + 7 ≤ L) (P : PH → Prop) (hH : Hx G s h H locs) (hl : lv_has ls 9 [(0, .ref b), (1, .ref x), (2, .ref y), (3, .ref z), (4, .int i)]) (hst : stX G x y z (f_X6_wind G x (xs (j + 1)) (xs (j + 2)) h) okE_L_wind cd_L_wind (fun h => f_X8_wind G y (xs (j + 1)) (xs (j + 2)) h) h P) (hcl : cells + 20 ≤ 601024) (hsl : slots + 240 ≤ 7293034)
    (kk : ∀ (h' : PH) (H' : Heap) (locs' : List Loc) (ls' : Array Slot), P h' → Hx G s h' H' locs' → lv_has ls' 9 [(0, .ref b), (1, .ref x), (2, .ref y), (3, .ref z), (4, .int i)] → W p l e room_1 s m args below meth c H' locs' (cells + 20) (slots + 240) Q (F0 m 1526 ls' [])) : W p l e room_1 s m args below meth c H locs cells slots Q (F0 m 332 ls []) := by
  have hx := X.1
  have hb := X.2.1
  refine lv_aload_n hx hb dL_law_332 rfl (lv_at hl 1 rfl) ?_
  refine lv_aload_n hx hb dL_law_333 rfl (lv_at hl 0 rfl) ?_
  refine lv_iload hx hb dL_law_334 (lv_at hl 4 rfl) ?_
  refine lv_iconst (v := 1) hx hb dL_law_336 (by decide) ?_
  refine lv_iadd hx hb dL_law_337 ?_
  refine p_sld X hH hX hbl hbA hL (z := i + (1 : Int32)) (j := j + 1) (by rw [hi]; exact nI_add j 1) (by omega) dL_law_338 ?_
  refine lv_aload_n hx hb dL_law_339 rfl (lv_at hl 0 rfl) ?_
  refine lv_iload hx hb dL_law_340 (lv_at hl 4 rfl) ?_
  refine lv_iconst (v := 2) hx hb dL_law_342 (by decide) ?_
  refine lv_iadd hx hb dL_law_343 ?_
  refine p_sld X hH hX hbl hbA hL (z := i + (2 : Int32)) (j := j + 2) (by rw [hi]; exact nI_add j 2) (by omega) dL_law_344 ?_
  refine lv_aload_n hx hb dL_law_345 rfl (lv_at hl 3 rfl) ?_
  obtain ⟨o, h1, hf, ⟨u7, hc7⟩, hE, hok, hex⟩ := hst
  have hout : ∃ h2, (∀ r, o = .inl r → aJs h1 z (0 : Int32) r.toInt64 = some h2 ∧ rfS G y z (fun h => f_X8_wind G y (xs (j + 1)) (xs (j + 2)) h) h2 0 P) := by
    cases o with
    | inl r => obtain ⟨h2, q1, q2⟩ := hok r rfl; exact ⟨h2, fun r2 e2 => by cases e2; exact ⟨q1, q2⟩⟩
    | inr E => exact ⟨h1, fun r2 e2 => by cases e2⟩
  obtain ⟨h2, hout⟩ := hout
  refine p_cW (As := [.ref x, .int (xs (j + 1)), .int (xs (j + 2)), .ref z]) (rest := []) X hH (c_L_wind l hfl G x (xs (j + 1)) (xs (j + 2)) z h o h1 hf hc7 h2 (fun r e2 => (hout r e2).1) (fun E e2 => (hE E e2).1)) mw_L_wind m_457 (by decide) rfl hl.1 (Nat.le_of_ble_eq_true rfl) dL_law_346 (c2 := cells + 10) (s2 := slots + 140) ⟨by show cells + 1 ≤ _; omega, by show cells + 10 ≤ 601024; omega, by show slots + 6 ≤ _; omega, by show slots + 140 ≤ 7293034; omega⟩ (fun r H locs ho hH => ?_) (fun E H locs sz ho hH => ?_)
  · obtain ⟨⟨u9, hc9⟩, bb, h3, hg, ⟨u9b, hc9b⟩, h4, ht, haJ, hP⟩ := (hout r ho).2
    refine lv_istore (lv' := [(5, .int (0 : Int32)), (0, .ref b), (1, .ref x), (2, .ref y), (3, .ref z), (4, .int i)]) hx hb dL_law_349 hl (by decide) rfl (fun ls hl => ?_)
    refine lv_aload_n hx hb dL_law_351 rfl (lv_at hl 3 rfl) ?_
    refine lv_aload_n hx hb dL_law_352 rfl (lv_at hl 1 rfl) ?_
    refine lv_iload hx hb dL_law_353 (lv_at hl 5 rfl) ?_
    refine lv_iconst (v := 1) hx hb dL_law_355 (by decide) ?_
    refine lv_iadd hx hb dL_law_356 ?_
    refine p_sld X hH hX hbl hbA hL (z := i + (1 : Int32)) (j := j + 1) (by rw [hi]; exact nI_add j 1) (by omega) dL_law_357 ?_
    refine lv_aload_n hx hb dL_law_358 rfl (lv_at hl 1 rfl) ?_
    refine lv_iload hx hb dL_law_359 (lv_at hl 5 rfl) ?_
    refine lv_iconst (v := 2) hx hb dL_law_361 (by decide) ?_
    refine lv_iadd hx hb dL_law_362 ?_
    refine p_sld X hH hX hbl hbA hL (z := i + (2 : Int32)) (j := j + 2) (by rw [hi]; exact nI_add j 2) (by omega) dL_law_363 ?_
    refine p_cV (As := [.int (xs (j + 1)), .int (xs (j + 2))]) (b := y) (rest := []) (ci := 9) X hH (c_X8_wind l G y (xs (j + 1)) (xs (j + 2)) _ bb h3 hg) mv_X8_wind (Or.inl m_922) rfl hc9 (by decide) rfl hl.1 (Nat.le_of_ble_eq_true rfl) dL_law_364 (c2 := cells + 20) (s2 := slots + 240) ⟨by show cells + 10 + 0 ≤ _; omega, by show cells + 20 ≤ 601024; omega, by show slots + 140 + 0 ≤ _; omega, by show slots + 240 ≤ 7293034; omega⟩ (fun H locs hH => ?_)
    refine lv_istore (lv' := [(6, .int bb), (5, .int (0 : Int32)), (0, .ref b), (1, .ref x), (2, .ref y), (3, .ref z), (4, .int i)]) hx hb dL_law_367 hl (by decide) rfl (fun ls hl => ?_)
    refine lv_aload_n hx hb dL_law_369 rfl (lv_at hl 4 rfl) ?_
    refine p_cV (As := []) (b := y) (rest := []) (ci := 9) X hH (c_X8_thrown l G y _ _ h4 ht) mv_X8_thrown (Or.inl m_899) rfl hc9b (by decide) rfl hl.1 (Nat.le_of_ble_eq_true rfl) dL_law_370 (c2 := cells + 20) (s2 := slots + 240) ⟨by show cells + 20 + 0 ≤ _; omega, by show cells + 20 ≤ 601024; omega, by show slots + 240 + 0 ≤ _; omega, by show slots + 240 ≤ 7293034; omega⟩ (fun H locs hH => ?_)
    refine lv_iload hx hb dL_law_373 (lv_at hl 1 rfl) ?_
    refine lv_icmp_eq (tgt := 380) hx hb dL_law_375 (by decide) (fun _ => ?_) (fun z0 => absurd rfl z0)
    refine lv_iload hx hb dL_law_380 (lv_at hl 1 rfl) ?_
    refine lv_if_ne (tgt := 397) hx hb dL_law_382 (by decide) (fun z0 => absurd rfl z0) (fun _ => ?_)
    refine lv_aload_n hx hb dL_law_385 rfl (lv_at hl 5 rfl) ?_
    refine lv_iconst (v := 0) hx hb dL_law_386 (by decide) ?_
    have hf5 : rd (aJ h4 z 0) (fun w => some w) = some bb.toInt64 := by rw [haJ rfl]; rfl
    refine p_lald X hH hf5 dL_law_387 (fun w hw hf6 => ?_)
    cases hf6
    refine lv_iload hx hb dL_law_388 (lv_at hl 0 rfl) ?_
    refine lv_i2l (v := bb.toInt64) hx hb dL_law_390 rfl ?_
    refine W.lcmp hx hb dL_law_391 ?_
    refine lv_if_eq (tgt := 397) hx hb dL_law_392 (by decide) (fun _ => ?_) (fun z0 => absurd (lg_same _) z0)
    refine lv_goto (tgt := 1526) hx hb dL_law_397 (by decide) ?_
    exact kk h4 H locs ls hP hH (lv_sub hl [2, 3, 4, 5, 6] rfl)
  · obtain ⟨⟨u9, hc9⟩, bb, h3, hg, ⟨u9b, hc9b⟩, h4, ht, haJ, hP⟩ := hex E ho sz (Hx.lt hH)
    have hne := (hE E ho).2
    refine lv_istore (lv' := [(5, .int (cd_L_wind E)), (0, .ref b), (1, .ref x), (2, .ref y), (3, .ref z), (4, .int i)]) hx hb dL_law_349 hl (by decide) rfl (fun ls hl => ?_)
    refine lv_aload_n hx hb dL_law_351 rfl (lv_at hl 3 rfl) ?_
    refine lv_aload_n hx hb dL_law_352 rfl (lv_at hl 1 rfl) ?_
    refine lv_iload hx hb dL_law_353 (lv_at hl 5 rfl) ?_
    refine lv_iconst (v := 1) hx hb dL_law_355 (by decide) ?_
    refine lv_iadd hx hb dL_law_356 ?_
    refine p_sld X hH hX hbl hbA hL (z := i + (1 : Int32)) (j := j + 1) (by rw [hi]; exact nI_add j 1) (by omega) dL_law_357 ?_
    refine lv_aload_n hx hb dL_law_358 rfl (lv_at hl 1 rfl) ?_
    refine lv_iload hx hb dL_law_359 (lv_at hl 5 rfl) ?_
    refine lv_iconst (v := 2) hx hb dL_law_361 (by decide) ?_
    refine lv_iadd hx hb dL_law_362 ?_
    refine p_sld X hH hX hbl hbA hL (z := i + (2 : Int32)) (j := j + 2) (by rw [hi]; exact nI_add j 2) (by omega) dL_law_363 ?_
    refine p_cV (As := [.int (xs (j + 1)), .int (xs (j + 2))]) (b := y) (rest := []) (ci := 9) X hH (c_X8_wind l G y (xs (j + 1)) (xs (j + 2)) _ bb h3 hg) mv_X8_wind (Or.inl m_922) rfl hc9 (by decide) rfl hl.1 (Nat.le_of_ble_eq_true rfl) dL_law_364 (c2 := cells + 20) (s2 := slots + 240) ⟨by show cells + 10 + 0 ≤ _; omega, by show cells + 20 ≤ 601024; omega, by show slots + 140 + 0 ≤ _; omega, by show slots + 240 ≤ 7293034; omega⟩ (fun H locs hH => ?_)
    refine lv_istore (lv' := [(6, .int bb), (5, .int (cd_L_wind E)), (0, .ref b), (1, .ref x), (2, .ref y), (3, .ref z), (4, .int i)]) hx hb dL_law_367 hl (by decide) rfl (fun ls hl => ?_)
    refine lv_aload_n hx hb dL_law_369 rfl (lv_at hl 4 rfl) ?_
    refine p_cV (As := []) (b := y) (rest := []) (ci := 9) X hH (c_X8_thrown l G y _ _ h4 ht) mv_X8_thrown (Or.inl m_899) rfl hc9b (by decide) rfl hl.1 (Nat.le_of_ble_eq_true rfl) dL_law_370 (c2 := cells + 20) (s2 := slots + 240) ⟨by show cells + 20 + 0 ≤ _; omega, by show cells + 20 ≤ 601024; omega, by show slots + 240 + 0 ≤ _; omega, by show slots + 240 ≤ 7293034; omega⟩ (fun H locs hH => ?_)
    refine lv_iload hx hb dL_law_373 (lv_at hl 1 rfl) ?_
    refine lv_icmp_eq (tgt := 380) hx hb dL_law_375 (by decide) (fun _ => ?_) (fun z0 => absurd rfl z0)
    refine lv_iload hx hb dL_law_380 (lv_at hl 1 rfl) ?_
    refine lv_if_ne (tgt := 397) hx hb dL_law_382 (by decide) (fun _ => ?_) (fun z0 => absurd z0 hne)
    refine lv_goto (tgt := 1526) hx hb dL_law_397 (by decide) ?_
    exact kk h4 H locs ls hP hH (lv_sub hl [2, 3, 4, 5, 6] rfl)
abbrev okE_L_setUp : String → Prop := fun E => E = "java/lang/IllegalArgumentException" ∨ E = "java/lang/IllegalStateException"
set_option maxRecDepth 100000 in
set_option maxHeartbeats 4000000 in
theorem lc_setUp (X : Cx G p s m args meth c cL_law 9 "VaneHouseLaw" meth.name ret) (hX : va_X b L xs s s.heap) (hbl : b < s.heap.size) (hbA : ¬ gB G ≤ b) (hL : L ≤ 3584) (hfl : l.stackTraces = false) {x y z : Nat} {i : Int32} {j : Nat} (hi : i = nI j) (hj : j + 7 ≤ L) (P : PH → Prop) (hH : Hx G s h H locs) (hl : lv_has ls 9 [(0, .ref b), (1, .ref x), (2, .ref y), (3, .ref z), (4, .int i)]) (hst : stX G x y z (f_X6_setUp G x (xs (j + 1)) (xs (j + 2)) (xs (j + 3)) (xs (j + 4)) (xs (j + 5)) (xs (j + 6)) h) okE_L_setUp cd_L_setUp (fun h => f_X8_setUp G y (xs (j + 1)) (xs (j + 2)) (xs (j + 3)) (xs (j + 4)) (xs (j + 5)) (xs (j + 6)) h) h P) (hcl : cells + 20 ≤ 601024) (hsl : slots + 240 ≤ 7293034)
    (kk : ∀ (h' : PH) (H' : Heap) (locs' : List Loc) (ls' : Array Slot), P h' → Hx G s h' H' locs' → lv_has ls' 9 [(0, .ref b), (1, .ref x), (2, .ref y), (3, .ref z), (4, .int i)] → W p l e room_1 s m args below meth c H' locs' (cells + 20) (slots + 240) Q (F0 m 1526 ls' [])) : W p l e room_1 s m args below meth c H locs cells slots Q (F0 m 400 ls []) := by
  have hx := X.1
  have hb := X.2.1
  refine lv_aload_n hx hb dL_law_400 rfl (lv_at hl 1 rfl) ?_
  refine lv_aload_n hx hb dL_law_401 rfl (lv_at hl 0 rfl) ?_
  refine lv_iload hx hb dL_law_402 (lv_at hl 4 rfl) ?_
  refine lv_iconst (v := 1) hx hb dL_law_404 (by decide) ?_
  refine lv_iadd hx hb dL_law_405 ?_
  refine p_sld X hH hX hbl hbA hL (z := i + (1 : Int32)) (j := j + 1) (by rw [hi]; exact nI_add j 1) (by omega) dL_law_406 ?_
  refine lv_aload_n hx hb dL_law_407 rfl (lv_at hl 0 rfl) ?_
  refine lv_iload hx hb dL_law_408 (lv_at hl 4 rfl) ?_
  refine lv_iconst (v := 2) hx hb dL_law_410 (by decide) ?_
  refine lv_iadd hx hb dL_law_411 ?_
  refine p_sld X hH hX hbl hbA hL (z := i + (2 : Int32)) (j := j + 2) (by rw [hi]; exact nI_add j 2) (by omega) dL_law_412 ?_
  refine lv_aload_n hx hb dL_law_413 rfl (lv_at hl 0 rfl) ?_
  refine lv_iload hx hb dL_law_414 (lv_at hl 4 rfl) ?_
  refine lv_iconst (v := 3) hx hb dL_law_416 (by decide) ?_
  refine lv_iadd hx hb dL_law_417 ?_
  refine p_sld X hH hX hbl hbA hL (z := i + (3 : Int32)) (j := j + 3) (by rw [hi]; exact nI_add j 3) (by omega) dL_law_418 ?_
  refine lv_aload_n hx hb dL_law_419 rfl (lv_at hl 0 rfl) ?_
  refine lv_iload hx hb dL_law_420 (lv_at hl 4 rfl) ?_
  refine lv_iconst (v := 4) hx hb dL_law_422 (by decide) ?_
  refine lv_iadd hx hb dL_law_423 ?_
  refine p_sld X hH hX hbl hbA hL (z := i + (4 : Int32)) (j := j + 4) (by rw [hi]; exact nI_add j 4) (by omega) dL_law_424 ?_
  refine lv_aload_n hx hb dL_law_425 rfl (lv_at hl 0 rfl) ?_
  refine lv_iload hx hb dL_law_426 (lv_at hl 4 rfl) ?_
  refine lv_iconst (v := 5) hx hb dL_law_428 (by decide) ?_
  refine lv_iadd hx hb dL_law_429 ?_
  refine p_sld X hH hX hbl hbA hL (z := i + (5 : Int32)) (j := j + 5) (by rw [hi]; exact nI_add j 5) (by omega) dL_law_430 ?_
  refine lv_aload_n hx hb dL_law_431 rfl (lv_at hl 0 rfl) ?_
  refine lv_iload hx hb dL_law_432 (lv_at hl 4 rfl) ?_
  refine lv_bipush (v := 6) hx hb dL_law_434 (by decide) ?_
  refine lv_iadd hx hb dL_law_436 ?_
  refine p_sld X hH hX hbl hbA hL (z := i + (6 : Int32)) (j := j + 6) (by rw [hi]; exact nI_add j 6) (by omega) dL_law_437 ?_
  refine lv_aload_n hx hb dL_law_438 rfl (lv_at hl 3 rfl) ?_
  obtain ⟨o, h1, hf, ⟨u7, hc7⟩, hE, hok, hex⟩ := hst
  have hout : ∃ h2, (∀ r, o = .inl r → aJs h1 z (0 : Int32) r.toInt64 = some h2 ∧ rfS G y z (fun h => f_X8_setUp G y (xs (j + 1)) (xs (j + 2)) (xs (j + 3)) (xs (j + 4)) (xs (j + 5)) (xs (j + 6)) h) h2 0 P) := by
    cases o with
    | inl r => obtain ⟨h2, q1, q2⟩ := hok r rfl; exact ⟨h2, fun r2 e2 => by cases e2; exact ⟨q1, q2⟩⟩
    | inr E => exact ⟨h1, fun r2 e2 => by cases e2⟩
  obtain ⟨h2, hout⟩ := hout
  refine p_cW (As := [.ref x, .int (xs (j + 1)), .int (xs (j + 2)), .int (xs (j + 3)), .int (xs (j + 4)), .int (xs (j + 5)), .int (xs (j + 6)), .ref z]) (rest := []) X hH (c_L_setUp l hfl G x (xs (j + 1)) (xs (j + 2)) (xs (j + 3)) (xs (j + 4)) (xs (j + 5)) (xs (j + 6)) z h o h1 hf hc7 h2 (fun r e2 => (hout r e2).1) (fun E e2 => (hE E e2).1)) mw_L_setUp m_482 (by decide) rfl hl.1 (Nat.le_of_ble_eq_true rfl) dL_law_439 (c2 := cells + 10) (s2 := slots + 140) ⟨by show cells + 7 ≤ _; omega, by show cells + 10 ≤ 601024; omega, by show slots + 129 ≤ _; omega, by show slots + 140 ≤ 7293034; omega⟩ (fun r H locs ho hH => ?_) (fun E H locs sz ho hH => ?_)
  · obtain ⟨⟨u9, hc9⟩, bb, h3, hg, ⟨u9b, hc9b⟩, h4, ht, haJ, hP⟩ := (hout r ho).2
    refine lv_istore (lv' := [(5, .int (0 : Int32)), (0, .ref b), (1, .ref x), (2, .ref y), (3, .ref z), (4, .int i)]) hx hb dL_law_442 hl (by decide) rfl (fun ls hl => ?_)
    refine lv_aload_n hx hb dL_law_444 rfl (lv_at hl 3 rfl) ?_
    refine lv_aload_n hx hb dL_law_445 rfl (lv_at hl 1 rfl) ?_
    refine lv_iload hx hb dL_law_446 (lv_at hl 5 rfl) ?_
    refine lv_iconst (v := 1) hx hb dL_law_448 (by decide) ?_
    refine lv_iadd hx hb dL_law_449 ?_
    refine p_sld X hH hX hbl hbA hL (z := i + (1 : Int32)) (j := j + 1) (by rw [hi]; exact nI_add j 1) (by omega) dL_law_450 ?_
    refine lv_aload_n hx hb dL_law_451 rfl (lv_at hl 1 rfl) ?_
    refine lv_iload hx hb dL_law_452 (lv_at hl 5 rfl) ?_
    refine lv_iconst (v := 2) hx hb dL_law_454 (by decide) ?_
    refine lv_iadd hx hb dL_law_455 ?_
    refine p_sld X hH hX hbl hbA hL (z := i + (2 : Int32)) (j := j + 2) (by rw [hi]; exact nI_add j 2) (by omega) dL_law_456 ?_
    refine lv_aload_n hx hb dL_law_457 rfl (lv_at hl 1 rfl) ?_
    refine lv_iload hx hb dL_law_458 (lv_at hl 5 rfl) ?_
    refine lv_iconst (v := 3) hx hb dL_law_460 (by decide) ?_
    refine lv_iadd hx hb dL_law_461 ?_
    refine p_sld X hH hX hbl hbA hL (z := i + (3 : Int32)) (j := j + 3) (by rw [hi]; exact nI_add j 3) (by omega) dL_law_462 ?_
    refine lv_aload_n hx hb dL_law_463 rfl (lv_at hl 1 rfl) ?_
    refine lv_iload hx hb dL_law_464 (lv_at hl 5 rfl) ?_
    refine lv_iconst (v := 4) hx hb dL_law_466 (by decide) ?_
    refine lv_iadd hx hb dL_law_467 ?_
    refine p_sld X hH hX hbl hbA hL (z := i + (4 : Int32)) (j := j + 4) (by rw [hi]; exact nI_add j 4) (by omega) dL_law_468 ?_
    refine lv_aload_n hx hb dL_law_469 rfl (lv_at hl 1 rfl) ?_
    refine lv_iload hx hb dL_law_470 (lv_at hl 5 rfl) ?_
    refine lv_iconst (v := 5) hx hb dL_law_472 (by decide) ?_
    refine lv_iadd hx hb dL_law_473 ?_
    refine p_sld X hH hX hbl hbA hL (z := i + (5 : Int32)) (j := j + 5) (by rw [hi]; exact nI_add j 5) (by omega) dL_law_474 ?_
    refine lv_aload_n hx hb dL_law_475 rfl (lv_at hl 1 rfl) ?_
    refine lv_iload hx hb dL_law_476 (lv_at hl 5 rfl) ?_
    refine lv_bipush (v := 6) hx hb dL_law_478 (by decide) ?_
    refine lv_iadd hx hb dL_law_480 ?_
    refine p_sld X hH hX hbl hbA hL (z := i + (6 : Int32)) (j := j + 6) (by rw [hi]; exact nI_add j 6) (by omega) dL_law_481 ?_
    refine p_cV (As := [.int (xs (j + 1)), .int (xs (j + 2)), .int (xs (j + 3)), .int (xs (j + 4)), .int (xs (j + 5)), .int (xs (j + 6))]) (b := y) (rest := []) (ci := 9) X hH (c_X8_setUp l G y (xs (j + 1)) (xs (j + 2)) (xs (j + 3)) (xs (j + 4)) (xs (j + 5)) (xs (j + 6)) _ bb h3 hg) mv_X8_setUp (Or.inl m_930) rfl hc9 (by decide) rfl hl.1 (Nat.le_of_ble_eq_true rfl) dL_law_482 (c2 := cells + 20) (s2 := slots + 240) ⟨by show cells + 10 + 1 ≤ _; omega, by show cells + 20 ≤ 601024; omega, by show slots + 140 + 10 ≤ _; omega, by show slots + 240 ≤ 7293034; omega⟩ (fun H locs hH => ?_)
    refine lv_istore (lv' := [(6, .int bb), (5, .int (0 : Int32)), (0, .ref b), (1, .ref x), (2, .ref y), (3, .ref z), (4, .int i)]) hx hb dL_law_485 hl (by decide) rfl (fun ls hl => ?_)
    refine lv_aload_n hx hb dL_law_487 rfl (lv_at hl 4 rfl) ?_
    refine p_cV (As := []) (b := y) (rest := []) (ci := 9) X hH (c_X8_thrown l G y _ _ h4 ht) mv_X8_thrown (Or.inl m_899) rfl hc9b (by decide) rfl hl.1 (Nat.le_of_ble_eq_true rfl) dL_law_488 (c2 := cells + 20) (s2 := slots + 240) ⟨by show cells + 20 + 0 ≤ _; omega, by show cells + 20 ≤ 601024; omega, by show slots + 240 + 0 ≤ _; omega, by show slots + 240 ≤ 7293034; omega⟩ (fun H locs hH => ?_)
    refine lv_iload hx hb dL_law_491 (lv_at hl 1 rfl) ?_
    refine lv_icmp_eq (tgt := 498) hx hb dL_law_493 (by decide) (fun _ => ?_) (fun z0 => absurd rfl z0)
    refine lv_iload hx hb dL_law_498 (lv_at hl 1 rfl) ?_
    refine lv_if_ne (tgt := 515) hx hb dL_law_500 (by decide) (fun z0 => absurd rfl z0) (fun _ => ?_)
    refine lv_aload_n hx hb dL_law_503 rfl (lv_at hl 5 rfl) ?_
    refine lv_iconst (v := 0) hx hb dL_law_504 (by decide) ?_
    have hf5 : rd (aJ h4 z 0) (fun w => some w) = some bb.toInt64 := by rw [haJ rfl]; rfl
    refine p_lald X hH hf5 dL_law_505 (fun w hw hf6 => ?_)
    cases hf6
    refine lv_iload hx hb dL_law_506 (lv_at hl 0 rfl) ?_
    refine lv_i2l (v := bb.toInt64) hx hb dL_law_508 rfl ?_
    refine W.lcmp hx hb dL_law_509 ?_
    refine lv_if_eq (tgt := 515) hx hb dL_law_510 (by decide) (fun _ => ?_) (fun z0 => absurd (lg_same _) z0)
    refine lv_goto (tgt := 1526) hx hb dL_law_515 (by decide) ?_
    exact kk h4 H locs ls hP hH (lv_sub hl [2, 3, 4, 5, 6] rfl)
  · obtain ⟨⟨u9, hc9⟩, bb, h3, hg, ⟨u9b, hc9b⟩, h4, ht, haJ, hP⟩ := hex E ho sz (Hx.lt hH)
    have hne := (hE E ho).2
    refine lv_istore (lv' := [(5, .int (cd_L_setUp E)), (0, .ref b), (1, .ref x), (2, .ref y), (3, .ref z), (4, .int i)]) hx hb dL_law_442 hl (by decide) rfl (fun ls hl => ?_)
    refine lv_aload_n hx hb dL_law_444 rfl (lv_at hl 3 rfl) ?_
    refine lv_aload_n hx hb dL_law_445 rfl (lv_at hl 1 rfl) ?_
    refine lv_iload hx hb dL_law_446 (lv_at hl 5 rfl) ?_
    refine lv_iconst (v := 1) hx hb dL_law_448 (by decide) ?_
    refine lv_iadd hx hb dL_law_449 ?_
    refine p_sld X hH hX hbl hbA hL (z := i + (1 : Int32)) (j := j + 1) (by rw [hi]; exact nI_add j 1) (by omega) dL_law_450 ?_
    refine lv_aload_n hx hb dL_law_451 rfl (lv_at hl 1 rfl) ?_
    refine lv_iload hx hb dL_law_452 (lv_at hl 5 rfl) ?_
    refine lv_iconst (v := 2) hx hb dL_law_454 (by decide) ?_
    refine lv_iadd hx hb dL_law_455 ?_
    refine p_sld X hH hX hbl hbA hL (z := i + (2 : Int32)) (j := j + 2) (by rw [hi]; exact nI_add j 2) (by omega) dL_law_456 ?_
    refine lv_aload_n hx hb dL_law_457 rfl (lv_at hl 1 rfl) ?_
    refine lv_iload hx hb dL_law_458 (lv_at hl 5 rfl) ?_
    refine lv_iconst (v := 3) hx hb dL_law_460 (by decide) ?_
    refine lv_iadd hx hb dL_law_461 ?_
    refine p_sld X hH hX hbl hbA hL (z := i + (3 : Int32)) (j := j + 3) (by rw [hi]; exact nI_add j 3) (by omega) dL_law_462 ?_
    refine lv_aload_n hx hb dL_law_463 rfl (lv_at hl 1 rfl) ?_
    refine lv_iload hx hb dL_law_464 (lv_at hl 5 rfl) ?_
    refine lv_iconst (v := 4) hx hb dL_law_466 (by decide) ?_
    refine lv_iadd hx hb dL_law_467 ?_
    refine p_sld X hH hX hbl hbA hL (z := i + (4 : Int32)) (j := j + 4) (by rw [hi]; exact nI_add j 4) (by omega) dL_law_468 ?_
    refine lv_aload_n hx hb dL_law_469 rfl (lv_at hl 1 rfl) ?_
    refine lv_iload hx hb dL_law_470 (lv_at hl 5 rfl) ?_
    refine lv_iconst (v := 5) hx hb dL_law_472 (by decide) ?_
    refine lv_iadd hx hb dL_law_473 ?_
    refine p_sld X hH hX hbl hbA hL (z := i + (5 : Int32)) (j := j + 5) (by rw [hi]; exact nI_add j 5) (by omega) dL_law_474 ?_
    refine lv_aload_n hx hb dL_law_475 rfl (lv_at hl 1 rfl) ?_
    refine lv_iload hx hb dL_law_476 (lv_at hl 5 rfl) ?_
    refine lv_bipush (v := 6) hx hb dL_law_478 (by decide) ?_
    refine lv_iadd hx hb dL_law_480 ?_
    refine p_sld X hH hX hbl hbA hL (z := i + (6 : Int32)) (j := j + 6) (by rw [hi]; exact nI_add j 6) (by omega) dL_law_481 ?_
    refine p_cV (As := [.int (xs (j + 1)), .int (xs (j + 2)), .int (xs (j + 3)), .int (xs (j + 4)), .int (xs (j + 5)), .int (xs (j + 6))]) (b := y) (rest := []) (ci := 9) X hH (c_X8_setUp l G y (xs (j + 1)) (xs (j + 2)) (xs (j + 3)) (xs (j + 4)) (xs (j + 5)) (xs (j + 6)) _ bb h3 hg) mv_X8_setUp (Or.inl m_930) rfl hc9 (by decide) rfl hl.1 (Nat.le_of_ble_eq_true rfl) dL_law_482 (c2 := cells + 20) (s2 := slots + 240) ⟨by show cells + 10 + 1 ≤ _; omega, by show cells + 20 ≤ 601024; omega, by show slots + 140 + 10 ≤ _; omega, by show slots + 240 ≤ 7293034; omega⟩ (fun H locs hH => ?_)
    refine lv_istore (lv' := [(6, .int bb), (5, .int (cd_L_setUp E)), (0, .ref b), (1, .ref x), (2, .ref y), (3, .ref z), (4, .int i)]) hx hb dL_law_485 hl (by decide) rfl (fun ls hl => ?_)
    refine lv_aload_n hx hb dL_law_487 rfl (lv_at hl 4 rfl) ?_
    refine p_cV (As := []) (b := y) (rest := []) (ci := 9) X hH (c_X8_thrown l G y _ _ h4 ht) mv_X8_thrown (Or.inl m_899) rfl hc9b (by decide) rfl hl.1 (Nat.le_of_ble_eq_true rfl) dL_law_488 (c2 := cells + 20) (s2 := slots + 240) ⟨by show cells + 20 + 0 ≤ _; omega, by show cells + 20 ≤ 601024; omega, by show slots + 240 + 0 ≤ _; omega, by show slots + 240 ≤ 7293034; omega⟩ (fun H locs hH => ?_)
    refine lv_iload hx hb dL_law_491 (lv_at hl 1 rfl) ?_
    refine lv_icmp_eq (tgt := 498) hx hb dL_law_493 (by decide) (fun _ => ?_) (fun z0 => absurd rfl z0)
    refine lv_iload hx hb dL_law_498 (lv_at hl 1 rfl) ?_
    refine lv_if_ne (tgt := 515) hx hb dL_law_500 (by decide) (fun _ => ?_) (fun z0 => absurd z0 hne)
    refine lv_goto (tgt := 1526) hx hb dL_law_515 (by decide) ?_
    exact kk h4 H locs ls hP hH (lv_sub hl [2, 3, 4, 5, 6] rfl)
abbrev okE_L_oil : String → Prop := fun E => E = "java/lang/IndexOutOfBoundsException"
set_option maxRecDepth 100000 in
set_option maxHeartbeats 4000000 in
theorem lc_oil (X : Cx G p s m args meth c cL_law 9 "VaneHouseLaw" meth.name ret) (hX : va_X b L xs s s.heap) (hbl : b < s.heap.size) (hbA : ¬ gB G ≤ b) (hL : L ≤ 3584) (hfl : l.stackTraces = false) {x y z : Nat} {i : Int32} {j : Nat} (hi : i = nI j) (hj : j + 7 ≤ L) (P : PH → Prop) (hH : Hx G s h H locs) (hl : lv_has ls 9 [(0, .ref b), (1, .ref x), (2, .ref y), (3, .ref z), (4, .int i)]) (hst : stX G x y z (f_X6_oil G x (xs (j + 1)) h) okE_L_oil cd_L_oil (fun h => f_X8_oil G y (xs (j + 1)) h) h P) (hcl : cells + 20 ≤ 601024) (hsl : slots + 240 ≤ 7293034)
    (kk : ∀ (h' : PH) (H' : Heap) (locs' : List Loc) (ls' : Array Slot), P h' → Hx G s h' H' locs' → lv_has ls' 9 [(0, .ref b), (1, .ref x), (2, .ref y), (3, .ref z), (4, .int i)] → W p l e room_1 s m args below meth c H' locs' (cells + 20) (slots + 240) Q (F0 m 1526 ls' [])) : W p l e room_1 s m args below meth c H locs cells slots Q (F0 m 518 ls []) := by
  have hx := X.1
  have hb := X.2.1
  refine lv_aload_n hx hb dL_law_518 rfl (lv_at hl 1 rfl) ?_
  refine lv_aload_n hx hb dL_law_519 rfl (lv_at hl 0 rfl) ?_
  refine lv_iload hx hb dL_law_520 (lv_at hl 4 rfl) ?_
  refine lv_iconst (v := 1) hx hb dL_law_522 (by decide) ?_
  refine lv_iadd hx hb dL_law_523 ?_
  refine p_sld X hH hX hbl hbA hL (z := i + (1 : Int32)) (j := j + 1) (by rw [hi]; exact nI_add j 1) (by omega) dL_law_524 ?_
  refine lv_aload_n hx hb dL_law_525 rfl (lv_at hl 3 rfl) ?_
  obtain ⟨o, h1, hf, ⟨u7, hc7⟩, hE, hok, hex⟩ := hst
  have hout : ∃ h2, (∀ r, o = .inl r → aJs h1 z (0 : Int32) r.toInt64 = some h2 ∧ rfS G y z (fun h => f_X8_oil G y (xs (j + 1)) h) h2 0 P) := by
    cases o with
    | inl r => obtain ⟨h2, q1, q2⟩ := hok r rfl; exact ⟨h2, fun r2 e2 => by cases e2; exact ⟨q1, q2⟩⟩
    | inr E => exact ⟨h1, fun r2 e2 => by cases e2⟩
  obtain ⟨h2, hout⟩ := hout
  refine p_cW (As := [.ref x, .int (xs (j + 1)), .ref z]) (rest := []) X hH (c_L_oil l hfl G x (xs (j + 1)) z h o h1 hf hc7 h2 (fun r e2 => (hout r e2).1) (fun E e2 => (hE E e2).1)) mw_L_oil m_577 (by decide) rfl hl.1 (Nat.le_of_ble_eq_true rfl) dL_law_526 (c2 := cells + 10) (s2 := slots + 140) ⟨by show cells + 1 ≤ _; omega, by show cells + 10 ≤ 601024; omega, by show slots + 6 ≤ _; omega, by show slots + 140 ≤ 7293034; omega⟩ (fun r H locs ho hH => ?_) (fun E H locs sz ho hH => ?_)
  · obtain ⟨⟨u9, hc9⟩, bb, h3, hg, ⟨u9b, hc9b⟩, h4, ht, haJ, hP⟩ := (hout r ho).2
    refine lv_istore (lv' := [(5, .int (0 : Int32)), (0, .ref b), (1, .ref x), (2, .ref y), (3, .ref z), (4, .int i)]) hx hb dL_law_529 hl (by decide) rfl (fun ls hl => ?_)
    refine lv_aload_n hx hb dL_law_531 rfl (lv_at hl 3 rfl) ?_
    refine lv_aload_n hx hb dL_law_532 rfl (lv_at hl 1 rfl) ?_
    refine lv_iload hx hb dL_law_533 (lv_at hl 5 rfl) ?_
    refine lv_iconst (v := 1) hx hb dL_law_535 (by decide) ?_
    refine lv_iadd hx hb dL_law_536 ?_
    refine p_sld X hH hX hbl hbA hL (z := i + (1 : Int32)) (j := j + 1) (by rw [hi]; exact nI_add j 1) (by omega) dL_law_537 ?_
    refine p_cV (As := [.int (xs (j + 1))]) (b := y) (rest := []) (ci := 9) X hH (c_X8_oil l G y (xs (j + 1)) _ bb h3 hg) mv_X8_oil (Or.inl m_939) rfl hc9 (by decide) rfl hl.1 (Nat.le_of_ble_eq_true rfl) dL_law_538 (c2 := cells + 20) (s2 := slots + 240) ⟨by show cells + 10 + 0 ≤ _; omega, by show cells + 20 ≤ 601024; omega, by show slots + 140 + 0 ≤ _; omega, by show slots + 240 ≤ 7293034; omega⟩ (fun H locs hH => ?_)
    refine lv_istore (lv' := [(6, .int bb), (5, .int (0 : Int32)), (0, .ref b), (1, .ref x), (2, .ref y), (3, .ref z), (4, .int i)]) hx hb dL_law_541 hl (by decide) rfl (fun ls hl => ?_)
    refine lv_aload_n hx hb dL_law_543 rfl (lv_at hl 4 rfl) ?_
    refine p_cV (As := []) (b := y) (rest := []) (ci := 9) X hH (c_X8_thrown l G y _ _ h4 ht) mv_X8_thrown (Or.inl m_899) rfl hc9b (by decide) rfl hl.1 (Nat.le_of_ble_eq_true rfl) dL_law_544 (c2 := cells + 20) (s2 := slots + 240) ⟨by show cells + 20 + 0 ≤ _; omega, by show cells + 20 ≤ 601024; omega, by show slots + 240 + 0 ≤ _; omega, by show slots + 240 ≤ 7293034; omega⟩ (fun H locs hH => ?_)
    refine lv_iload hx hb dL_law_547 (lv_at hl 1 rfl) ?_
    refine lv_icmp_eq (tgt := 554) hx hb dL_law_549 (by decide) (fun _ => ?_) (fun z0 => absurd rfl z0)
    refine lv_iload hx hb dL_law_554 (lv_at hl 1 rfl) ?_
    refine lv_if_ne (tgt := 571) hx hb dL_law_556 (by decide) (fun z0 => absurd rfl z0) (fun _ => ?_)
    refine lv_aload_n hx hb dL_law_559 rfl (lv_at hl 5 rfl) ?_
    refine lv_iconst (v := 0) hx hb dL_law_560 (by decide) ?_
    have hf5 : rd (aJ h4 z 0) (fun w => some w) = some bb.toInt64 := by rw [haJ rfl]; rfl
    refine p_lald X hH hf5 dL_law_561 (fun w hw hf6 => ?_)
    cases hf6
    refine lv_iload hx hb dL_law_562 (lv_at hl 0 rfl) ?_
    refine lv_i2l (v := bb.toInt64) hx hb dL_law_564 rfl ?_
    refine W.lcmp hx hb dL_law_565 ?_
    refine lv_if_eq (tgt := 571) hx hb dL_law_566 (by decide) (fun _ => ?_) (fun z0 => absurd (lg_same _) z0)
    refine lv_goto (tgt := 1526) hx hb dL_law_571 (by decide) ?_
    exact kk h4 H locs ls hP hH (lv_sub hl [2, 3, 4, 5, 6] rfl)
  · obtain ⟨⟨u9, hc9⟩, bb, h3, hg, ⟨u9b, hc9b⟩, h4, ht, haJ, hP⟩ := hex E ho sz (Hx.lt hH)
    have hne := (hE E ho).2
    refine lv_istore (lv' := [(5, .int (cd_L_oil E)), (0, .ref b), (1, .ref x), (2, .ref y), (3, .ref z), (4, .int i)]) hx hb dL_law_529 hl (by decide) rfl (fun ls hl => ?_)
    refine lv_aload_n hx hb dL_law_531 rfl (lv_at hl 3 rfl) ?_
    refine lv_aload_n hx hb dL_law_532 rfl (lv_at hl 1 rfl) ?_
    refine lv_iload hx hb dL_law_533 (lv_at hl 5 rfl) ?_
    refine lv_iconst (v := 1) hx hb dL_law_535 (by decide) ?_
    refine lv_iadd hx hb dL_law_536 ?_
    refine p_sld X hH hX hbl hbA hL (z := i + (1 : Int32)) (j := j + 1) (by rw [hi]; exact nI_add j 1) (by omega) dL_law_537 ?_
    refine p_cV (As := [.int (xs (j + 1))]) (b := y) (rest := []) (ci := 9) X hH (c_X8_oil l G y (xs (j + 1)) _ bb h3 hg) mv_X8_oil (Or.inl m_939) rfl hc9 (by decide) rfl hl.1 (Nat.le_of_ble_eq_true rfl) dL_law_538 (c2 := cells + 20) (s2 := slots + 240) ⟨by show cells + 10 + 0 ≤ _; omega, by show cells + 20 ≤ 601024; omega, by show slots + 140 + 0 ≤ _; omega, by show slots + 240 ≤ 7293034; omega⟩ (fun H locs hH => ?_)
    refine lv_istore (lv' := [(6, .int bb), (5, .int (cd_L_oil E)), (0, .ref b), (1, .ref x), (2, .ref y), (3, .ref z), (4, .int i)]) hx hb dL_law_541 hl (by decide) rfl (fun ls hl => ?_)
    refine lv_aload_n hx hb dL_law_543 rfl (lv_at hl 4 rfl) ?_
    refine p_cV (As := []) (b := y) (rest := []) (ci := 9) X hH (c_X8_thrown l G y _ _ h4 ht) mv_X8_thrown (Or.inl m_899) rfl hc9b (by decide) rfl hl.1 (Nat.le_of_ble_eq_true rfl) dL_law_544 (c2 := cells + 20) (s2 := slots + 240) ⟨by show cells + 20 + 0 ≤ _; omega, by show cells + 20 ≤ 601024; omega, by show slots + 240 + 0 ≤ _; omega, by show slots + 240 ≤ 7293034; omega⟩ (fun H locs hH => ?_)
    refine lv_iload hx hb dL_law_547 (lv_at hl 1 rfl) ?_
    refine lv_icmp_eq (tgt := 554) hx hb dL_law_549 (by decide) (fun _ => ?_) (fun z0 => absurd rfl z0)
    refine lv_iload hx hb dL_law_554 (lv_at hl 1 rfl) ?_
    refine lv_if_ne (tgt := 571) hx hb dL_law_556 (by decide) (fun _ => ?_) (fun z0 => absurd z0 hne)
    refine lv_goto (tgt := 1526) hx hb dL_law_571 (by decide) ?_
    exact kk h4 H locs ls hP hH (lv_sub hl [2, 3, 4, 5, 6] rfl)
abbrev okE_L_turn : String → Prop := fun E => E = "java/lang/IndexOutOfBoundsException" ∨ E = "java/lang/IllegalArgumentException" ∨ E = "java/lang/IllegalStateException"
set_option maxRecDepth 100000 in
set_option maxHeartbeats 4000000 in
theorem lc_turn (X : Cx G p s m args meth c cL_law 9 "VaneHouseLaw" meth.name ret) (hX : va_X b L xs s s.heap) (hbl : b < s.heap.size) (hbA : ¬ gB G ≤ b) (hL : L ≤ 3584) (hfl : l.stackTraces = false) {x y z : Nat} {i : Int32} {j : Nat} (hi : i = nI j) (hj : j + 7 ≤ L) (P : PH → Prop) (hH : Hx G s h H locs) (hl : lv_has ls 9 [(0, .ref b), (1, .ref x), (2, .ref y), (3, .ref z), (4, .int i)]) (hst : stX G x y z (f_X6_turn G x (xs (j + 1)) (xs (j + 2)) h) okE_L_turn cd_L_turn (fun h => f_X8_turn G y (xs (j + 1)) (xs (j + 2)) h) h P) (hcl : cells + 20 ≤ 601024) (hsl : slots + 240 ≤ 7293034)
    (kk : ∀ (h' : PH) (H' : Heap) (locs' : List Loc) (ls' : Array Slot), P h' → Hx G s h' H' locs' → lv_has ls' 9 [(0, .ref b), (1, .ref x), (2, .ref y), (3, .ref z), (4, .int i)] → W p l e room_1 s m args below meth c H' locs' (cells + 20) (slots + 240) Q (F0 m 1526 ls' [])) : W p l e room_1 s m args below meth c H locs cells slots Q (F0 m 574 ls []) := by
  have hx := X.1
  have hb := X.2.1
  refine lv_aload_n hx hb dL_law_574 rfl (lv_at hl 1 rfl) ?_
  refine lv_aload_n hx hb dL_law_575 rfl (lv_at hl 0 rfl) ?_
  refine lv_iload hx hb dL_law_576 (lv_at hl 4 rfl) ?_
  refine lv_iconst (v := 1) hx hb dL_law_578 (by decide) ?_
  refine lv_iadd hx hb dL_law_579 ?_
  refine p_sld X hH hX hbl hbA hL (z := i + (1 : Int32)) (j := j + 1) (by rw [hi]; exact nI_add j 1) (by omega) dL_law_580 ?_
  refine lv_aload_n hx hb dL_law_581 rfl (lv_at hl 0 rfl) ?_
  refine lv_iload hx hb dL_law_582 (lv_at hl 4 rfl) ?_
  refine lv_iconst (v := 2) hx hb dL_law_584 (by decide) ?_
  refine lv_iadd hx hb dL_law_585 ?_
  refine p_sld X hH hX hbl hbA hL (z := i + (2 : Int32)) (j := j + 2) (by rw [hi]; exact nI_add j 2) (by omega) dL_law_586 ?_
  refine lv_aload_n hx hb dL_law_587 rfl (lv_at hl 3 rfl) ?_
  obtain ⟨o, h1, hf, ⟨u7, hc7⟩, hE, hok, hex⟩ := hst
  have hout : ∃ h2, (∀ r, o = .inl r → aJs h1 z (0 : Int32) r.toInt64 = some h2 ∧ rfS G y z (fun h => f_X8_turn G y (xs (j + 1)) (xs (j + 2)) h) h2 0 P) := by
    cases o with
    | inl r => obtain ⟨h2, q1, q2⟩ := hok r rfl; exact ⟨h2, fun r2 e2 => by cases e2; exact ⟨q1, q2⟩⟩
    | inr E => exact ⟨h1, fun r2 e2 => by cases e2⟩
  obtain ⟨h2, hout⟩ := hout
  refine p_cW (As := [.ref x, .int (xs (j + 1)), .int (xs (j + 2)), .ref z]) (rest := []) X hH (c_L_turn l hfl G x (xs (j + 1)) (xs (j + 2)) z h o h1 hf hc7 h2 (fun r e2 => (hout r e2).1) (fun E e2 => (hE E e2).1)) mw_L_turn m_593 (by decide) rfl hl.1 (Nat.le_of_ble_eq_true rfl) dL_law_588 (c2 := cells + 10) (s2 := slots + 140) ⟨by show cells + 1 ≤ _; omega, by show cells + 10 ≤ 601024; omega, by show slots + 6 ≤ _; omega, by show slots + 140 ≤ 7293034; omega⟩ (fun r H locs ho hH => ?_) (fun E H locs sz ho hH => ?_)
  · obtain ⟨⟨u9, hc9⟩, bb, h3, hg, ⟨u9b, hc9b⟩, h4, ht, haJ, hP⟩ := (hout r ho).2
    refine lv_istore (lv' := [(5, .int (0 : Int32)), (0, .ref b), (1, .ref x), (2, .ref y), (3, .ref z), (4, .int i)]) hx hb dL_law_591 hl (by decide) rfl (fun ls hl => ?_)
    refine lv_aload_n hx hb dL_law_593 rfl (lv_at hl 3 rfl) ?_
    refine lv_aload_n hx hb dL_law_594 rfl (lv_at hl 1 rfl) ?_
    refine lv_iload hx hb dL_law_595 (lv_at hl 5 rfl) ?_
    refine lv_iconst (v := 1) hx hb dL_law_597 (by decide) ?_
    refine lv_iadd hx hb dL_law_598 ?_
    refine p_sld X hH hX hbl hbA hL (z := i + (1 : Int32)) (j := j + 1) (by rw [hi]; exact nI_add j 1) (by omega) dL_law_599 ?_
    refine lv_aload_n hx hb dL_law_600 rfl (lv_at hl 1 rfl) ?_
    refine lv_iload hx hb dL_law_601 (lv_at hl 5 rfl) ?_
    refine lv_iconst (v := 2) hx hb dL_law_603 (by decide) ?_
    refine lv_iadd hx hb dL_law_604 ?_
    refine p_sld X hH hX hbl hbA hL (z := i + (2 : Int32)) (j := j + 2) (by rw [hi]; exact nI_add j 2) (by omega) dL_law_605 ?_
    refine p_cV (As := [.int (xs (j + 1)), .int (xs (j + 2))]) (b := y) (rest := []) (ci := 9) X hH (c_X8_turn l G y (xs (j + 1)) (xs (j + 2)) _ bb h3 hg) mv_X8_turn (Or.inl m_955) rfl hc9 (by decide) rfl hl.1 (Nat.le_of_ble_eq_true rfl) dL_law_606 (c2 := cells + 20) (s2 := slots + 240) ⟨by show cells + 10 + 0 ≤ _; omega, by show cells + 20 ≤ 601024; omega, by show slots + 140 + 0 ≤ _; omega, by show slots + 240 ≤ 7293034; omega⟩ (fun H locs hH => ?_)
    refine lv_istore (lv' := [(6, .int bb), (5, .int (0 : Int32)), (0, .ref b), (1, .ref x), (2, .ref y), (3, .ref z), (4, .int i)]) hx hb dL_law_609 hl (by decide) rfl (fun ls hl => ?_)
    refine lv_aload_n hx hb dL_law_611 rfl (lv_at hl 4 rfl) ?_
    refine p_cV (As := []) (b := y) (rest := []) (ci := 9) X hH (c_X8_thrown l G y _ _ h4 ht) mv_X8_thrown (Or.inl m_899) rfl hc9b (by decide) rfl hl.1 (Nat.le_of_ble_eq_true rfl) dL_law_612 (c2 := cells + 20) (s2 := slots + 240) ⟨by show cells + 20 + 0 ≤ _; omega, by show cells + 20 ≤ 601024; omega, by show slots + 240 + 0 ≤ _; omega, by show slots + 240 ≤ 7293034; omega⟩ (fun H locs hH => ?_)
    refine lv_iload hx hb dL_law_615 (lv_at hl 1 rfl) ?_
    refine lv_icmp_eq (tgt := 622) hx hb dL_law_617 (by decide) (fun _ => ?_) (fun z0 => absurd rfl z0)
    refine lv_iload hx hb dL_law_622 (lv_at hl 1 rfl) ?_
    refine lv_if_ne (tgt := 639) hx hb dL_law_624 (by decide) (fun z0 => absurd rfl z0) (fun _ => ?_)
    refine lv_aload_n hx hb dL_law_627 rfl (lv_at hl 5 rfl) ?_
    refine lv_iconst (v := 0) hx hb dL_law_628 (by decide) ?_
    have hf5 : rd (aJ h4 z 0) (fun w => some w) = some bb.toInt64 := by rw [haJ rfl]; rfl
    refine p_lald X hH hf5 dL_law_629 (fun w hw hf6 => ?_)
    cases hf6
    refine lv_iload hx hb dL_law_630 (lv_at hl 0 rfl) ?_
    refine lv_i2l (v := bb.toInt64) hx hb dL_law_632 rfl ?_
    refine W.lcmp hx hb dL_law_633 ?_
    refine lv_if_eq (tgt := 639) hx hb dL_law_634 (by decide) (fun _ => ?_) (fun z0 => absurd (lg_same _) z0)
    refine lv_goto (tgt := 1526) hx hb dL_law_639 (by decide) ?_
    exact kk h4 H locs ls hP hH (lv_sub hl [2, 3, 4, 5, 6] rfl)
  · obtain ⟨⟨u9, hc9⟩, bb, h3, hg, ⟨u9b, hc9b⟩, h4, ht, haJ, hP⟩ := hex E ho sz (Hx.lt hH)
    have hne := (hE E ho).2
    refine lv_istore (lv' := [(5, .int (cd_L_turn E)), (0, .ref b), (1, .ref x), (2, .ref y), (3, .ref z), (4, .int i)]) hx hb dL_law_591 hl (by decide) rfl (fun ls hl => ?_)
    refine lv_aload_n hx hb dL_law_593 rfl (lv_at hl 3 rfl) ?_
    refine lv_aload_n hx hb dL_law_594 rfl (lv_at hl 1 rfl) ?_
    refine lv_iload hx hb dL_law_595 (lv_at hl 5 rfl) ?_
    refine lv_iconst (v := 1) hx hb dL_law_597 (by decide) ?_
    refine lv_iadd hx hb dL_law_598 ?_
    refine p_sld X hH hX hbl hbA hL (z := i + (1 : Int32)) (j := j + 1) (by rw [hi]; exact nI_add j 1) (by omega) dL_law_599 ?_
    refine lv_aload_n hx hb dL_law_600 rfl (lv_at hl 1 rfl) ?_
    refine lv_iload hx hb dL_law_601 (lv_at hl 5 rfl) ?_
    refine lv_iconst (v := 2) hx hb dL_law_603 (by decide) ?_
    refine lv_iadd hx hb dL_law_604 ?_
    refine p_sld X hH hX hbl hbA hL (z := i + (2 : Int32)) (j := j + 2) (by rw [hi]; exact nI_add j 2) (by omega) dL_law_605 ?_
    refine p_cV (As := [.int (xs (j + 1)), .int (xs (j + 2))]) (b := y) (rest := []) (ci := 9) X hH (c_X8_turn l G y (xs (j + 1)) (xs (j + 2)) _ bb h3 hg) mv_X8_turn (Or.inl m_955) rfl hc9 (by decide) rfl hl.1 (Nat.le_of_ble_eq_true rfl) dL_law_606 (c2 := cells + 20) (s2 := slots + 240) ⟨by show cells + 10 + 0 ≤ _; omega, by show cells + 20 ≤ 601024; omega, by show slots + 140 + 0 ≤ _; omega, by show slots + 240 ≤ 7293034; omega⟩ (fun H locs hH => ?_)
    refine lv_istore (lv' := [(6, .int bb), (5, .int (cd_L_turn E)), (0, .ref b), (1, .ref x), (2, .ref y), (3, .ref z), (4, .int i)]) hx hb dL_law_609 hl (by decide) rfl (fun ls hl => ?_)
    refine lv_aload_n hx hb dL_law_611 rfl (lv_at hl 4 rfl) ?_
    refine p_cV (As := []) (b := y) (rest := []) (ci := 9) X hH (c_X8_thrown l G y _ _ h4 ht) mv_X8_thrown (Or.inl m_899) rfl hc9b (by decide) rfl hl.1 (Nat.le_of_ble_eq_true rfl) dL_law_612 (c2 := cells + 20) (s2 := slots + 240) ⟨by show cells + 20 + 0 ≤ _; omega, by show cells + 20 ≤ 601024; omega, by show slots + 240 + 0 ≤ _; omega, by show slots + 240 ≤ 7293034; omega⟩ (fun H locs hH => ?_)
    refine lv_iload hx hb dL_law_615 (lv_at hl 1 rfl) ?_
    refine lv_icmp_eq (tgt := 622) hx hb dL_law_617 (by decide) (fun _ => ?_) (fun z0 => absurd rfl z0)
    refine lv_iload hx hb dL_law_622 (lv_at hl 1 rfl) ?_
    refine lv_if_ne (tgt := 639) hx hb dL_law_624 (by decide) (fun _ => ?_) (fun z0 => absurd z0 hne)
    refine lv_goto (tgt := 1526) hx hb dL_law_639 (by decide) ?_
    exact kk h4 H locs ls hP hH (lv_sub hl [2, 3, 4, 5, 6] rfl)
abbrev okE_L_vane : String → Prop := fun E => E = "java/lang/IndexOutOfBoundsException"
set_option maxRecDepth 100000 in
set_option maxHeartbeats 4000000 in
theorem lc_vane (X : Cx G p s m args meth c cL_law 9 "VaneHouseLaw" meth.name ret) (hX : va_X b L xs s s.heap) (hbl : b < s.heap.size) (hbA : ¬ gB G ≤ b) (hL : L ≤ 3584) (hfl : l.stackTraces = false) {x y z : Nat} {i : Int32} {j : Nat} (hi : i = nI j) (hj : j + 7 ≤ L) (P : PH → Prop) (hH : Hx G s h H locs) (hl : lv_has ls 9 [(0, .ref b), (1, .ref x), (2, .ref y), (3, .ref z), (4, .int i)]) (hst : stX G x y z (f_X6_vane G x (xs (j + 1)) (xs (j + 2)) h) okE_L_vane cd_L_vane (fun h => f_X8_vane G y (xs (j + 1)) (xs (j + 2)) h) h P) (hcl : cells + 20 ≤ 601024) (hsl : slots + 240 ≤ 7293034)
    (kk : ∀ (h' : PH) (H' : Heap) (locs' : List Loc) (ls' : Array Slot), P h' → Hx G s h' H' locs' → lv_has ls' 9 [(0, .ref b), (1, .ref x), (2, .ref y), (3, .ref z), (4, .int i)] → W p l e room_1 s m args below meth c H' locs' (cells + 20) (slots + 240) Q (F0 m 1526 ls' [])) : W p l e room_1 s m args below meth c H locs cells slots Q (F0 m 642 ls []) := by
  have hx := X.1
  have hb := X.2.1
  refine lv_aload_n hx hb dL_law_642 rfl (lv_at hl 1 rfl) ?_
  refine lv_aload_n hx hb dL_law_643 rfl (lv_at hl 0 rfl) ?_
  refine lv_iload hx hb dL_law_644 (lv_at hl 4 rfl) ?_
  refine lv_iconst (v := 1) hx hb dL_law_646 (by decide) ?_
  refine lv_iadd hx hb dL_law_647 ?_
  refine p_sld X hH hX hbl hbA hL (z := i + (1 : Int32)) (j := j + 1) (by rw [hi]; exact nI_add j 1) (by omega) dL_law_648 ?_
  refine lv_aload_n hx hb dL_law_649 rfl (lv_at hl 0 rfl) ?_
  refine lv_iload hx hb dL_law_650 (lv_at hl 4 rfl) ?_
  refine lv_iconst (v := 2) hx hb dL_law_652 (by decide) ?_
  refine lv_iadd hx hb dL_law_653 ?_
  refine p_sld X hH hX hbl hbA hL (z := i + (2 : Int32)) (j := j + 2) (by rw [hi]; exact nI_add j 2) (by omega) dL_law_654 ?_
  refine lv_aload_n hx hb dL_law_655 rfl (lv_at hl 3 rfl) ?_
  obtain ⟨o, h1, hf, ⟨u7, hc7⟩, hE, hok, hex⟩ := hst
  have hout : ∃ h2, (∀ r, o = .inl r → aJs h1 z (0 : Int32) r.toInt64 = some h2 ∧ rfS G y z (fun h => f_X8_vane G y (xs (j + 1)) (xs (j + 2)) h) h2 0 P) := by
    cases o with
    | inl r => obtain ⟨h2, q1, q2⟩ := hok r rfl; exact ⟨h2, fun r2 e2 => by cases e2; exact ⟨q1, q2⟩⟩
    | inr E => exact ⟨h1, fun r2 e2 => by cases e2⟩
  obtain ⟨h2, hout⟩ := hout
  refine p_cW (As := [.ref x, .int (xs (j + 1)), .int (xs (j + 2)), .ref z]) (rest := []) X hH (c_L_vane l hfl G x (xs (j + 1)) (xs (j + 2)) z h o h1 hf hc7 h2 (fun r e2 => (hout r e2).1) (fun E e2 => (hE E e2).1)) mw_L_vane m_602 (by decide) rfl hl.1 (Nat.le_of_ble_eq_true rfl) dL_law_656 (c2 := cells + 10) (s2 := slots + 140) ⟨by show cells + 1 ≤ _; omega, by show cells + 10 ≤ 601024; omega, by show slots + 6 ≤ _; omega, by show slots + 140 ≤ 7293034; omega⟩ (fun r H locs ho hH => ?_) (fun E H locs sz ho hH => ?_)
  · obtain ⟨⟨u9, hc9⟩, bb, h3, hg, ⟨u9b, hc9b⟩, h4, ht, haJ, hP⟩ := (hout r ho).2
    refine lv_istore (lv' := [(5, .int (0 : Int32)), (0, .ref b), (1, .ref x), (2, .ref y), (3, .ref z), (4, .int i)]) hx hb dL_law_659 hl (by decide) rfl (fun ls hl => ?_)
    refine lv_aload_n hx hb dL_law_661 rfl (lv_at hl 3 rfl) ?_
    refine lv_aload_n hx hb dL_law_662 rfl (lv_at hl 1 rfl) ?_
    refine lv_iload hx hb dL_law_663 (lv_at hl 5 rfl) ?_
    refine lv_iconst (v := 1) hx hb dL_law_665 (by decide) ?_
    refine lv_iadd hx hb dL_law_666 ?_
    refine p_sld X hH hX hbl hbA hL (z := i + (1 : Int32)) (j := j + 1) (by rw [hi]; exact nI_add j 1) (by omega) dL_law_667 ?_
    refine lv_aload_n hx hb dL_law_668 rfl (lv_at hl 1 rfl) ?_
    refine lv_iload hx hb dL_law_669 (lv_at hl 5 rfl) ?_
    refine lv_iconst (v := 2) hx hb dL_law_671 (by decide) ?_
    refine lv_iadd hx hb dL_law_672 ?_
    refine p_sld X hH hX hbl hbA hL (z := i + (2 : Int32)) (j := j + 2) (by rw [hi]; exact nI_add j 2) (by omega) dL_law_673 ?_
    refine p_cV (As := [.int (xs (j + 1)), .int (xs (j + 2))]) (b := y) (rest := []) (ci := 9) X hH (c_X8_vane l G y (xs (j + 1)) (xs (j + 2)) _ bb h3 hg) mv_X8_vane (Or.inl m_960) rfl hc9 (by decide) rfl hl.1 (Nat.le_of_ble_eq_true rfl) dL_law_674 (c2 := cells + 20) (s2 := slots + 240) ⟨by show cells + 10 + 0 ≤ _; omega, by show cells + 20 ≤ 601024; omega, by show slots + 140 + 0 ≤ _; omega, by show slots + 240 ≤ 7293034; omega⟩ (fun H locs hH => ?_)
    refine lv_istore (lv' := [(6, .int bb), (5, .int (0 : Int32)), (0, .ref b), (1, .ref x), (2, .ref y), (3, .ref z), (4, .int i)]) hx hb dL_law_677 hl (by decide) rfl (fun ls hl => ?_)
    refine lv_aload_n hx hb dL_law_679 rfl (lv_at hl 4 rfl) ?_
    refine p_cV (As := []) (b := y) (rest := []) (ci := 9) X hH (c_X8_thrown l G y _ _ h4 ht) mv_X8_thrown (Or.inl m_899) rfl hc9b (by decide) rfl hl.1 (Nat.le_of_ble_eq_true rfl) dL_law_680 (c2 := cells + 20) (s2 := slots + 240) ⟨by show cells + 20 + 0 ≤ _; omega, by show cells + 20 ≤ 601024; omega, by show slots + 240 + 0 ≤ _; omega, by show slots + 240 ≤ 7293034; omega⟩ (fun H locs hH => ?_)
    refine lv_iload hx hb dL_law_683 (lv_at hl 1 rfl) ?_
    refine lv_icmp_eq (tgt := 690) hx hb dL_law_685 (by decide) (fun _ => ?_) (fun z0 => absurd rfl z0)
    refine lv_iload hx hb dL_law_690 (lv_at hl 1 rfl) ?_
    refine lv_if_ne (tgt := 707) hx hb dL_law_692 (by decide) (fun z0 => absurd rfl z0) (fun _ => ?_)
    refine lv_aload_n hx hb dL_law_695 rfl (lv_at hl 5 rfl) ?_
    refine lv_iconst (v := 0) hx hb dL_law_696 (by decide) ?_
    have hf5 : rd (aJ h4 z 0) (fun w => some w) = some bb.toInt64 := by rw [haJ rfl]; rfl
    refine p_lald X hH hf5 dL_law_697 (fun w hw hf6 => ?_)
    cases hf6
    refine lv_iload hx hb dL_law_698 (lv_at hl 0 rfl) ?_
    refine lv_i2l (v := bb.toInt64) hx hb dL_law_700 rfl ?_
    refine W.lcmp hx hb dL_law_701 ?_
    refine lv_if_eq (tgt := 707) hx hb dL_law_702 (by decide) (fun _ => ?_) (fun z0 => absurd (lg_same _) z0)
    refine lv_goto (tgt := 1526) hx hb dL_law_707 (by decide) ?_
    exact kk h4 H locs ls hP hH (lv_sub hl [2, 3, 4, 5, 6] rfl)
  · obtain ⟨⟨u9, hc9⟩, bb, h3, hg, ⟨u9b, hc9b⟩, h4, ht, haJ, hP⟩ := hex E ho sz (Hx.lt hH)
    have hne := (hE E ho).2
    refine lv_istore (lv' := [(5, .int (cd_L_vane E)), (0, .ref b), (1, .ref x), (2, .ref y), (3, .ref z), (4, .int i)]) hx hb dL_law_659 hl (by decide) rfl (fun ls hl => ?_)
    refine lv_aload_n hx hb dL_law_661 rfl (lv_at hl 3 rfl) ?_
    refine lv_aload_n hx hb dL_law_662 rfl (lv_at hl 1 rfl) ?_
    refine lv_iload hx hb dL_law_663 (lv_at hl 5 rfl) ?_
    refine lv_iconst (v := 1) hx hb dL_law_665 (by decide) ?_
    refine lv_iadd hx hb dL_law_666 ?_
    refine p_sld X hH hX hbl hbA hL (z := i + (1 : Int32)) (j := j + 1) (by rw [hi]; exact nI_add j 1) (by omega) dL_law_667 ?_
    refine lv_aload_n hx hb dL_law_668 rfl (lv_at hl 1 rfl) ?_
    refine lv_iload hx hb dL_law_669 (lv_at hl 5 rfl) ?_
    refine lv_iconst (v := 2) hx hb dL_law_671 (by decide) ?_
    refine lv_iadd hx hb dL_law_672 ?_
    refine p_sld X hH hX hbl hbA hL (z := i + (2 : Int32)) (j := j + 2) (by rw [hi]; exact nI_add j 2) (by omega) dL_law_673 ?_
    refine p_cV (As := [.int (xs (j + 1)), .int (xs (j + 2))]) (b := y) (rest := []) (ci := 9) X hH (c_X8_vane l G y (xs (j + 1)) (xs (j + 2)) _ bb h3 hg) mv_X8_vane (Or.inl m_960) rfl hc9 (by decide) rfl hl.1 (Nat.le_of_ble_eq_true rfl) dL_law_674 (c2 := cells + 20) (s2 := slots + 240) ⟨by show cells + 10 + 0 ≤ _; omega, by show cells + 20 ≤ 601024; omega, by show slots + 140 + 0 ≤ _; omega, by show slots + 240 ≤ 7293034; omega⟩ (fun H locs hH => ?_)
    refine lv_istore (lv' := [(6, .int bb), (5, .int (cd_L_vane E)), (0, .ref b), (1, .ref x), (2, .ref y), (3, .ref z), (4, .int i)]) hx hb dL_law_677 hl (by decide) rfl (fun ls hl => ?_)
    refine lv_aload_n hx hb dL_law_679 rfl (lv_at hl 4 rfl) ?_
    refine p_cV (As := []) (b := y) (rest := []) (ci := 9) X hH (c_X8_thrown l G y _ _ h4 ht) mv_X8_thrown (Or.inl m_899) rfl hc9b (by decide) rfl hl.1 (Nat.le_of_ble_eq_true rfl) dL_law_680 (c2 := cells + 20) (s2 := slots + 240) ⟨by show cells + 20 + 0 ≤ _; omega, by show cells + 20 ≤ 601024; omega, by show slots + 240 + 0 ≤ _; omega, by show slots + 240 ≤ 7293034; omega⟩ (fun H locs hH => ?_)
    refine lv_iload hx hb dL_law_683 (lv_at hl 1 rfl) ?_
    refine lv_icmp_eq (tgt := 690) hx hb dL_law_685 (by decide) (fun _ => ?_) (fun z0 => absurd rfl z0)
    refine lv_iload hx hb dL_law_690 (lv_at hl 1 rfl) ?_
    refine lv_if_ne (tgt := 707) hx hb dL_law_692 (by decide) (fun _ => ?_) (fun z0 => absurd z0 hne)
    refine lv_goto (tgt := 1526) hx hb dL_law_707 (by decide) ?_
    exact kk h4 H locs ls hP hH (lv_sub hl [2, 3, 4, 5, 6] rfl)
abbrev okE_L_difference : String → Prop := fun E => E = "java/lang/IllegalArgumentException"
set_option maxRecDepth 100000 in
set_option maxHeartbeats 4000000 in
theorem lc_difference (X : Cx G p s m args meth c cL_law 9 "VaneHouseLaw" meth.name ret) (hX : va_X b L xs s s.heap) (hbl : b < s.heap.size) (hbA : ¬ gB G ≤ b) (hL : L ≤ 3584) (hfl : l.stackTraces = false) {x y z : Nat} {i : Int32} {j : Nat} (hi : i = nI j) (hj : j + 7 ≤ L) (P : PH → Prop) (hH : Hx G s h H locs) (hl : lv_has ls 9 [(0, .ref b), (1, .ref x), (2, .ref y), (3, .ref z), (4, .int i)]) (hst : stX G x y z (f_X6_difference G x (xs (j + 1)) (xs (j + 2)) h) okE_L_difference cd_L_difference (fun h => f_X8_difference G y (xs (j + 1)) (xs (j + 2)) h) h P) (hcl : cells + 20 ≤ 601024) (hsl : slots + 240 ≤ 7293034)
    (kk : ∀ (h' : PH) (H' : Heap) (locs' : List Loc) (ls' : Array Slot), P h' → Hx G s h' H' locs' → lv_has ls' 9 [(0, .ref b), (1, .ref x), (2, .ref y), (3, .ref z), (4, .int i)] → W p l e room_1 s m args below meth c H' locs' (cells + 20) (slots + 240) Q (F0 m 1526 ls' [])) : W p l e room_1 s m args below meth c H locs cells slots Q (F0 m 710 ls []) := by
  have hx := X.1
  have hb := X.2.1
  refine lv_aload_n hx hb dL_law_710 rfl (lv_at hl 1 rfl) ?_
  refine lv_aload_n hx hb dL_law_711 rfl (lv_at hl 0 rfl) ?_
  refine lv_iload hx hb dL_law_712 (lv_at hl 4 rfl) ?_
  refine lv_iconst (v := 1) hx hb dL_law_714 (by decide) ?_
  refine lv_iadd hx hb dL_law_715 ?_
  refine p_sld X hH hX hbl hbA hL (z := i + (1 : Int32)) (j := j + 1) (by rw [hi]; exact nI_add j 1) (by omega) dL_law_716 ?_
  refine lv_aload_n hx hb dL_law_717 rfl (lv_at hl 0 rfl) ?_
  refine lv_iload hx hb dL_law_718 (lv_at hl 4 rfl) ?_
  refine lv_iconst (v := 2) hx hb dL_law_720 (by decide) ?_
  refine lv_iadd hx hb dL_law_721 ?_
  refine p_sld X hH hX hbl hbA hL (z := i + (2 : Int32)) (j := j + 2) (by rw [hi]; exact nI_add j 2) (by omega) dL_law_722 ?_
  refine lv_aload_n hx hb dL_law_723 rfl (lv_at hl 3 rfl) ?_
  obtain ⟨o, h1, hf, ⟨u7, hc7⟩, hE, hok, hex⟩ := hst
  have hout : ∃ h2, (∀ r, o = .inl r → aJs h1 z (0 : Int32) r.toInt64 = some h2 ∧ rfS G y z (fun h => f_X8_difference G y (xs (j + 1)) (xs (j + 2)) h) h2 0 P) := by
    cases o with
    | inl r => obtain ⟨h2, q1, q2⟩ := hok r rfl; exact ⟨h2, fun r2 e2 => by cases e2; exact ⟨q1, q2⟩⟩
    | inr E => exact ⟨h1, fun r2 e2 => by cases e2⟩
  obtain ⟨h2, hout⟩ := hout
  refine p_cW (As := [.ref x, .int (xs (j + 1)), .int (xs (j + 2)), .ref z]) (rest := []) X hH (c_L_difference l hfl G x (xs (j + 1)) (xs (j + 2)) z h o h1 hf hc7 h2 (fun r e2 => (hout r e2).1) (fun E e2 => (hE E e2).1)) mw_L_difference m_610 (by decide) rfl hl.1 (Nat.le_of_ble_eq_true rfl) dL_law_724 (c2 := cells + 10) (s2 := slots + 140) ⟨by show cells + 1 ≤ _; omega, by show cells + 10 ≤ 601024; omega, by show slots + 6 ≤ _; omega, by show slots + 140 ≤ 7293034; omega⟩ (fun r H locs ho hH => ?_) (fun E H locs sz ho hH => ?_)
  · obtain ⟨⟨u9, hc9⟩, bb, h3, hg, ⟨u9b, hc9b⟩, h4, ht, haJ, hP⟩ := (hout r ho).2
    refine lv_istore (lv' := [(5, .int (0 : Int32)), (0, .ref b), (1, .ref x), (2, .ref y), (3, .ref z), (4, .int i)]) hx hb dL_law_727 hl (by decide) rfl (fun ls hl => ?_)
    refine lv_aload_n hx hb dL_law_729 rfl (lv_at hl 3 rfl) ?_
    refine lv_aload_n hx hb dL_law_730 rfl (lv_at hl 1 rfl) ?_
    refine lv_iload hx hb dL_law_731 (lv_at hl 5 rfl) ?_
    refine lv_iconst (v := 1) hx hb dL_law_733 (by decide) ?_
    refine lv_iadd hx hb dL_law_734 ?_
    refine p_sld X hH hX hbl hbA hL (z := i + (1 : Int32)) (j := j + 1) (by rw [hi]; exact nI_add j 1) (by omega) dL_law_735 ?_
    refine lv_aload_n hx hb dL_law_736 rfl (lv_at hl 1 rfl) ?_
    refine lv_iload hx hb dL_law_737 (lv_at hl 5 rfl) ?_
    refine lv_iconst (v := 2) hx hb dL_law_739 (by decide) ?_
    refine lv_iadd hx hb dL_law_740 ?_
    refine p_sld X hH hX hbl hbA hL (z := i + (2 : Int32)) (j := j + 2) (by rw [hi]; exact nI_add j 2) (by omega) dL_law_741 ?_
    refine p_cV (As := [.int (xs (j + 1)), .int (xs (j + 2))]) (b := y) (rest := []) (ci := 9) X hH (c_X8_difference l G y (xs (j + 1)) (xs (j + 2)) _ bb h3 hg) mv_X8_difference (Or.inl m_987) rfl hc9 (by decide) rfl hl.1 (Nat.le_of_ble_eq_true rfl) dL_law_742 (c2 := cells + 20) (s2 := slots + 240) ⟨by show cells + 10 + 0 ≤ _; omega, by show cells + 20 ≤ 601024; omega, by show slots + 140 + 0 ≤ _; omega, by show slots + 240 ≤ 7293034; omega⟩ (fun H locs hH => ?_)
    refine lv_istore (lv' := [(6, .int bb), (5, .int (0 : Int32)), (0, .ref b), (1, .ref x), (2, .ref y), (3, .ref z), (4, .int i)]) hx hb dL_law_745 hl (by decide) rfl (fun ls hl => ?_)
    refine lv_aload_n hx hb dL_law_747 rfl (lv_at hl 4 rfl) ?_
    refine p_cV (As := []) (b := y) (rest := []) (ci := 9) X hH (c_X8_thrown l G y _ _ h4 ht) mv_X8_thrown (Or.inl m_899) rfl hc9b (by decide) rfl hl.1 (Nat.le_of_ble_eq_true rfl) dL_law_748 (c2 := cells + 20) (s2 := slots + 240) ⟨by show cells + 20 + 0 ≤ _; omega, by show cells + 20 ≤ 601024; omega, by show slots + 240 + 0 ≤ _; omega, by show slots + 240 ≤ 7293034; omega⟩ (fun H locs hH => ?_)
    refine lv_iload hx hb dL_law_751 (lv_at hl 1 rfl) ?_
    refine lv_icmp_eq (tgt := 758) hx hb dL_law_753 (by decide) (fun _ => ?_) (fun z0 => absurd rfl z0)
    refine lv_iload hx hb dL_law_758 (lv_at hl 1 rfl) ?_
    refine lv_if_ne (tgt := 775) hx hb dL_law_760 (by decide) (fun z0 => absurd rfl z0) (fun _ => ?_)
    refine lv_aload_n hx hb dL_law_763 rfl (lv_at hl 5 rfl) ?_
    refine lv_iconst (v := 0) hx hb dL_law_764 (by decide) ?_
    have hf5 : rd (aJ h4 z 0) (fun w => some w) = some bb.toInt64 := by rw [haJ rfl]; rfl
    refine p_lald X hH hf5 dL_law_765 (fun w hw hf6 => ?_)
    cases hf6
    refine lv_iload hx hb dL_law_766 (lv_at hl 0 rfl) ?_
    refine lv_i2l (v := bb.toInt64) hx hb dL_law_768 rfl ?_
    refine W.lcmp hx hb dL_law_769 ?_
    refine lv_if_eq (tgt := 775) hx hb dL_law_770 (by decide) (fun _ => ?_) (fun z0 => absurd (lg_same _) z0)
    refine lv_goto (tgt := 1526) hx hb dL_law_775 (by decide) ?_
    exact kk h4 H locs ls hP hH (lv_sub hl [2, 3, 4, 5, 6] rfl)
  · obtain ⟨⟨u9, hc9⟩, bb, h3, hg, ⟨u9b, hc9b⟩, h4, ht, haJ, hP⟩ := hex E ho sz (Hx.lt hH)
    have hne := (hE E ho).2
    refine lv_istore (lv' := [(5, .int (cd_L_difference E)), (0, .ref b), (1, .ref x), (2, .ref y), (3, .ref z), (4, .int i)]) hx hb dL_law_727 hl (by decide) rfl (fun ls hl => ?_)
    refine lv_aload_n hx hb dL_law_729 rfl (lv_at hl 3 rfl) ?_
    refine lv_aload_n hx hb dL_law_730 rfl (lv_at hl 1 rfl) ?_
    refine lv_iload hx hb dL_law_731 (lv_at hl 5 rfl) ?_
    refine lv_iconst (v := 1) hx hb dL_law_733 (by decide) ?_
    refine lv_iadd hx hb dL_law_734 ?_
    refine p_sld X hH hX hbl hbA hL (z := i + (1 : Int32)) (j := j + 1) (by rw [hi]; exact nI_add j 1) (by omega) dL_law_735 ?_
    refine lv_aload_n hx hb dL_law_736 rfl (lv_at hl 1 rfl) ?_
    refine lv_iload hx hb dL_law_737 (lv_at hl 5 rfl) ?_
    refine lv_iconst (v := 2) hx hb dL_law_739 (by decide) ?_
    refine lv_iadd hx hb dL_law_740 ?_
    refine p_sld X hH hX hbl hbA hL (z := i + (2 : Int32)) (j := j + 2) (by rw [hi]; exact nI_add j 2) (by omega) dL_law_741 ?_
    refine p_cV (As := [.int (xs (j + 1)), .int (xs (j + 2))]) (b := y) (rest := []) (ci := 9) X hH (c_X8_difference l G y (xs (j + 1)) (xs (j + 2)) _ bb h3 hg) mv_X8_difference (Or.inl m_987) rfl hc9 (by decide) rfl hl.1 (Nat.le_of_ble_eq_true rfl) dL_law_742 (c2 := cells + 20) (s2 := slots + 240) ⟨by show cells + 10 + 0 ≤ _; omega, by show cells + 20 ≤ 601024; omega, by show slots + 140 + 0 ≤ _; omega, by show slots + 240 ≤ 7293034; omega⟩ (fun H locs hH => ?_)
    refine lv_istore (lv' := [(6, .int bb), (5, .int (cd_L_difference E)), (0, .ref b), (1, .ref x), (2, .ref y), (3, .ref z), (4, .int i)]) hx hb dL_law_745 hl (by decide) rfl (fun ls hl => ?_)
    refine lv_aload_n hx hb dL_law_747 rfl (lv_at hl 4 rfl) ?_
    refine p_cV (As := []) (b := y) (rest := []) (ci := 9) X hH (c_X8_thrown l G y _ _ h4 ht) mv_X8_thrown (Or.inl m_899) rfl hc9b (by decide) rfl hl.1 (Nat.le_of_ble_eq_true rfl) dL_law_748 (c2 := cells + 20) (s2 := slots + 240) ⟨by show cells + 20 + 0 ≤ _; omega, by show cells + 20 ≤ 601024; omega, by show slots + 240 + 0 ≤ _; omega, by show slots + 240 ≤ 7293034; omega⟩ (fun H locs hH => ?_)
    refine lv_iload hx hb dL_law_751 (lv_at hl 1 rfl) ?_
    refine lv_icmp_eq (tgt := 758) hx hb dL_law_753 (by decide) (fun _ => ?_) (fun z0 => absurd rfl z0)
    refine lv_iload hx hb dL_law_758 (lv_at hl 1 rfl) ?_
    refine lv_if_ne (tgt := 775) hx hb dL_law_760 (by decide) (fun _ => ?_) (fun z0 => absurd z0 hne)
    refine lv_goto (tgt := 1526) hx hb dL_law_775 (by decide) ?_
    exact kk h4 H locs ls hP hH (lv_sub hl [2, 3, 4, 5, 6] rfl)
abbrev okE_L_move : String → Prop := fun E => E = "java/lang/IllegalArgumentException" ∨ E = "java/lang/IllegalStateException"
set_option maxRecDepth 100000 in
set_option maxHeartbeats 4000000 in
theorem lc_move (X : Cx G p s m args meth c cL_law 9 "VaneHouseLaw" meth.name ret) (hX : va_X b L xs s s.heap) (hbl : b < s.heap.size) (hbA : ¬ gB G ≤ b) (hL : L ≤ 3584) (hfl : l.stackTraces = false) {x y z : Nat} {i : Int32} {j : Nat} (hi : i = nI j) (hj : j + 7 ≤ L) (P : PH → Prop) (hH : Hx G s h H locs) (hl : lv_has ls 9 [(0, .ref b), (1, .ref x), (2, .ref y), (3, .ref z), (4, .int i)]) (hst : stX G x y z (f_X6_move G x (xs (j + 1)) (xs (j + 2)) (xs (j + 3)) (xs (j + 4)) h) okE_L_move cd_L_move (fun h => f_X8_move G y (xs (j + 1)) (xs (j + 2)) (xs (j + 3)) (xs (j + 4)) h) h P) (hcl : cells + 20 ≤ 601024) (hsl : slots + 240 ≤ 7293034)
    (kk : ∀ (h' : PH) (H' : Heap) (locs' : List Loc) (ls' : Array Slot), P h' → Hx G s h' H' locs' → lv_has ls' 9 [(0, .ref b), (1, .ref x), (2, .ref y), (3, .ref z), (4, .int i)] → W p l e room_1 s m args below meth c H' locs' (cells + 20) (slots + 240) Q (F0 m 1526 ls' [])) : W p l e room_1 s m args below meth c H locs cells slots Q (F0 m 778 ls []) := by
  have hx := X.1
  have hb := X.2.1
  refine lv_aload_n hx hb dL_law_778 rfl (lv_at hl 1 rfl) ?_
  refine lv_aload_n hx hb dL_law_779 rfl (lv_at hl 0 rfl) ?_
  refine lv_iload hx hb dL_law_780 (lv_at hl 4 rfl) ?_
  refine lv_iconst (v := 1) hx hb dL_law_782 (by decide) ?_
  refine lv_iadd hx hb dL_law_783 ?_
  refine p_sld X hH hX hbl hbA hL (z := i + (1 : Int32)) (j := j + 1) (by rw [hi]; exact nI_add j 1) (by omega) dL_law_784 ?_
  refine lv_aload_n hx hb dL_law_785 rfl (lv_at hl 0 rfl) ?_
  refine lv_iload hx hb dL_law_786 (lv_at hl 4 rfl) ?_
  refine lv_iconst (v := 2) hx hb dL_law_788 (by decide) ?_
  refine lv_iadd hx hb dL_law_789 ?_
  refine p_sld X hH hX hbl hbA hL (z := i + (2 : Int32)) (j := j + 2) (by rw [hi]; exact nI_add j 2) (by omega) dL_law_790 ?_
  refine lv_aload_n hx hb dL_law_791 rfl (lv_at hl 0 rfl) ?_
  refine lv_iload hx hb dL_law_792 (lv_at hl 4 rfl) ?_
  refine lv_iconst (v := 3) hx hb dL_law_794 (by decide) ?_
  refine lv_iadd hx hb dL_law_795 ?_
  refine p_sld X hH hX hbl hbA hL (z := i + (3 : Int32)) (j := j + 3) (by rw [hi]; exact nI_add j 3) (by omega) dL_law_796 ?_
  refine lv_aload_n hx hb dL_law_797 rfl (lv_at hl 0 rfl) ?_
  refine lv_iload hx hb dL_law_798 (lv_at hl 4 rfl) ?_
  refine lv_iconst (v := 4) hx hb dL_law_800 (by decide) ?_
  refine lv_iadd hx hb dL_law_801 ?_
  refine p_sld X hH hX hbl hbA hL (z := i + (4 : Int32)) (j := j + 4) (by rw [hi]; exact nI_add j 4) (by omega) dL_law_802 ?_
  refine lv_aload_n hx hb dL_law_803 rfl (lv_at hl 3 rfl) ?_
  obtain ⟨o, h1, hf, ⟨u7, hc7⟩, hE, hok, hex⟩ := hst
  have hout : ∃ h2, (∀ r, o = .inl r → aJs h1 z (0 : Int32) r.toInt64 = some h2 ∧ rfS G y z (fun h => f_X8_move G y (xs (j + 1)) (xs (j + 2)) (xs (j + 3)) (xs (j + 4)) h) h2 0 P) := by
    cases o with
    | inl r => obtain ⟨h2, q1, q2⟩ := hok r rfl; exact ⟨h2, fun r2 e2 => by cases e2; exact ⟨q1, q2⟩⟩
    | inr E => exact ⟨h1, fun r2 e2 => by cases e2⟩
  obtain ⟨h2, hout⟩ := hout
  refine p_cW (As := [.ref x, .int (xs (j + 1)), .int (xs (j + 2)), .int (xs (j + 3)), .int (xs (j + 4)), .ref z]) (rest := []) X hH (c_L_move l hfl G x (xs (j + 1)) (xs (j + 2)) (xs (j + 3)) (xs (j + 4)) z h o h1 hf hc7 h2 (fun r e2 => (hout r e2).1) (fun E e2 => (hE E e2).1)) mw_L_move m_617 (by decide) rfl hl.1 (Nat.le_of_ble_eq_true rfl) dL_law_804 (c2 := cells + 10) (s2 := slots + 140) ⟨by show cells + 3 ≤ _; omega, by show cells + 10 ≤ 601024; omega, by show slots + 61 ≤ _; omega, by show slots + 140 ≤ 7293034; omega⟩ (fun r H locs ho hH => ?_) (fun E H locs sz ho hH => ?_)
  · obtain ⟨⟨u9, hc9⟩, bb, h3, hg, ⟨u9b, hc9b⟩, h4, ht, haJ, hP⟩ := (hout r ho).2
    refine lv_istore (lv' := [(5, .int (0 : Int32)), (0, .ref b), (1, .ref x), (2, .ref y), (3, .ref z), (4, .int i)]) hx hb dL_law_807 hl (by decide) rfl (fun ls hl => ?_)
    refine lv_aload_n hx hb dL_law_809 rfl (lv_at hl 3 rfl) ?_
    refine lv_aload_n hx hb dL_law_810 rfl (lv_at hl 1 rfl) ?_
    refine lv_iload hx hb dL_law_811 (lv_at hl 5 rfl) ?_
    refine lv_iconst (v := 1) hx hb dL_law_813 (by decide) ?_
    refine lv_iadd hx hb dL_law_814 ?_
    refine p_sld X hH hX hbl hbA hL (z := i + (1 : Int32)) (j := j + 1) (by rw [hi]; exact nI_add j 1) (by omega) dL_law_815 ?_
    refine lv_aload_n hx hb dL_law_816 rfl (lv_at hl 1 rfl) ?_
    refine lv_iload hx hb dL_law_817 (lv_at hl 5 rfl) ?_
    refine lv_iconst (v := 2) hx hb dL_law_819 (by decide) ?_
    refine lv_iadd hx hb dL_law_820 ?_
    refine p_sld X hH hX hbl hbA hL (z := i + (2 : Int32)) (j := j + 2) (by rw [hi]; exact nI_add j 2) (by omega) dL_law_821 ?_
    refine lv_aload_n hx hb dL_law_822 rfl (lv_at hl 1 rfl) ?_
    refine lv_iload hx hb dL_law_823 (lv_at hl 5 rfl) ?_
    refine lv_iconst (v := 3) hx hb dL_law_825 (by decide) ?_
    refine lv_iadd hx hb dL_law_826 ?_
    refine p_sld X hH hX hbl hbA hL (z := i + (3 : Int32)) (j := j + 3) (by rw [hi]; exact nI_add j 3) (by omega) dL_law_827 ?_
    refine lv_aload_n hx hb dL_law_828 rfl (lv_at hl 1 rfl) ?_
    refine lv_iload hx hb dL_law_829 (lv_at hl 5 rfl) ?_
    refine lv_iconst (v := 4) hx hb dL_law_831 (by decide) ?_
    refine lv_iadd hx hb dL_law_832 ?_
    refine p_sld X hH hX hbl hbA hL (z := i + (4 : Int32)) (j := j + 4) (by rw [hi]; exact nI_add j 4) (by omega) dL_law_833 ?_
    refine p_cV (As := [.int (xs (j + 1)), .int (xs (j + 2)), .int (xs (j + 3)), .int (xs (j + 4))]) (b := y) (rest := []) (ci := 9) X hH (c_X8_move l G y (xs (j + 1)) (xs (j + 2)) (xs (j + 3)) (xs (j + 4)) _ bb h3 hg) mv_X8_move (Or.inl m_994) rfl hc9 (by decide) rfl hl.1 (Nat.le_of_ble_eq_true rfl) dL_law_834 (c2 := cells + 20) (s2 := slots + 240) ⟨by show cells + 10 + 1 ≤ _; omega, by show cells + 20 ≤ 601024; omega, by show slots + 140 + 6 ≤ _; omega, by show slots + 240 ≤ 7293034; omega⟩ (fun H locs hH => ?_)
    refine lv_istore (lv' := [(6, .int bb), (5, .int (0 : Int32)), (0, .ref b), (1, .ref x), (2, .ref y), (3, .ref z), (4, .int i)]) hx hb dL_law_837 hl (by decide) rfl (fun ls hl => ?_)
    refine lv_aload_n hx hb dL_law_839 rfl (lv_at hl 4 rfl) ?_
    refine p_cV (As := []) (b := y) (rest := []) (ci := 9) X hH (c_X8_thrown l G y _ _ h4 ht) mv_X8_thrown (Or.inl m_899) rfl hc9b (by decide) rfl hl.1 (Nat.le_of_ble_eq_true rfl) dL_law_840 (c2 := cells + 20) (s2 := slots + 240) ⟨by show cells + 20 + 0 ≤ _; omega, by show cells + 20 ≤ 601024; omega, by show slots + 240 + 0 ≤ _; omega, by show slots + 240 ≤ 7293034; omega⟩ (fun H locs hH => ?_)
    refine lv_iload hx hb dL_law_843 (lv_at hl 1 rfl) ?_
    refine lv_icmp_eq (tgt := 850) hx hb dL_law_845 (by decide) (fun _ => ?_) (fun z0 => absurd rfl z0)
    refine lv_iload hx hb dL_law_850 (lv_at hl 1 rfl) ?_
    refine lv_if_ne (tgt := 867) hx hb dL_law_852 (by decide) (fun z0 => absurd rfl z0) (fun _ => ?_)
    refine lv_aload_n hx hb dL_law_855 rfl (lv_at hl 5 rfl) ?_
    refine lv_iconst (v := 0) hx hb dL_law_856 (by decide) ?_
    have hf5 : rd (aJ h4 z 0) (fun w => some w) = some bb.toInt64 := by rw [haJ rfl]; rfl
    refine p_lald X hH hf5 dL_law_857 (fun w hw hf6 => ?_)
    cases hf6
    refine lv_iload hx hb dL_law_858 (lv_at hl 0 rfl) ?_
    refine lv_i2l (v := bb.toInt64) hx hb dL_law_860 rfl ?_
    refine W.lcmp hx hb dL_law_861 ?_
    refine lv_if_eq (tgt := 867) hx hb dL_law_862 (by decide) (fun _ => ?_) (fun z0 => absurd (lg_same _) z0)
    refine lv_goto (tgt := 1526) hx hb dL_law_867 (by decide) ?_
    exact kk h4 H locs ls hP hH (lv_sub hl [2, 3, 4, 5, 6] rfl)
  · obtain ⟨⟨u9, hc9⟩, bb, h3, hg, ⟨u9b, hc9b⟩, h4, ht, haJ, hP⟩ := hex E ho sz (Hx.lt hH)
    have hne := (hE E ho).2
    refine lv_istore (lv' := [(5, .int (cd_L_move E)), (0, .ref b), (1, .ref x), (2, .ref y), (3, .ref z), (4, .int i)]) hx hb dL_law_807 hl (by decide) rfl (fun ls hl => ?_)
    refine lv_aload_n hx hb dL_law_809 rfl (lv_at hl 3 rfl) ?_
    refine lv_aload_n hx hb dL_law_810 rfl (lv_at hl 1 rfl) ?_
    refine lv_iload hx hb dL_law_811 (lv_at hl 5 rfl) ?_
    refine lv_iconst (v := 1) hx hb dL_law_813 (by decide) ?_
    refine lv_iadd hx hb dL_law_814 ?_
    refine p_sld X hH hX hbl hbA hL (z := i + (1 : Int32)) (j := j + 1) (by rw [hi]; exact nI_add j 1) (by omega) dL_law_815 ?_
    refine lv_aload_n hx hb dL_law_816 rfl (lv_at hl 1 rfl) ?_
    refine lv_iload hx hb dL_law_817 (lv_at hl 5 rfl) ?_
    refine lv_iconst (v := 2) hx hb dL_law_819 (by decide) ?_
    refine lv_iadd hx hb dL_law_820 ?_
    refine p_sld X hH hX hbl hbA hL (z := i + (2 : Int32)) (j := j + 2) (by rw [hi]; exact nI_add j 2) (by omega) dL_law_821 ?_
    refine lv_aload_n hx hb dL_law_822 rfl (lv_at hl 1 rfl) ?_
    refine lv_iload hx hb dL_law_823 (lv_at hl 5 rfl) ?_
    refine lv_iconst (v := 3) hx hb dL_law_825 (by decide) ?_
    refine lv_iadd hx hb dL_law_826 ?_
    refine p_sld X hH hX hbl hbA hL (z := i + (3 : Int32)) (j := j + 3) (by rw [hi]; exact nI_add j 3) (by omega) dL_law_827 ?_
    refine lv_aload_n hx hb dL_law_828 rfl (lv_at hl 1 rfl) ?_
    refine lv_iload hx hb dL_law_829 (lv_at hl 5 rfl) ?_
    refine lv_iconst (v := 4) hx hb dL_law_831 (by decide) ?_
    refine lv_iadd hx hb dL_law_832 ?_
    refine p_sld X hH hX hbl hbA hL (z := i + (4 : Int32)) (j := j + 4) (by rw [hi]; exact nI_add j 4) (by omega) dL_law_833 ?_
    refine p_cV (As := [.int (xs (j + 1)), .int (xs (j + 2)), .int (xs (j + 3)), .int (xs (j + 4))]) (b := y) (rest := []) (ci := 9) X hH (c_X8_move l G y (xs (j + 1)) (xs (j + 2)) (xs (j + 3)) (xs (j + 4)) _ bb h3 hg) mv_X8_move (Or.inl m_994) rfl hc9 (by decide) rfl hl.1 (Nat.le_of_ble_eq_true rfl) dL_law_834 (c2 := cells + 20) (s2 := slots + 240) ⟨by show cells + 10 + 1 ≤ _; omega, by show cells + 20 ≤ 601024; omega, by show slots + 140 + 6 ≤ _; omega, by show slots + 240 ≤ 7293034; omega⟩ (fun H locs hH => ?_)
    refine lv_istore (lv' := [(6, .int bb), (5, .int (cd_L_move E)), (0, .ref b), (1, .ref x), (2, .ref y), (3, .ref z), (4, .int i)]) hx hb dL_law_837 hl (by decide) rfl (fun ls hl => ?_)
    refine lv_aload_n hx hb dL_law_839 rfl (lv_at hl 4 rfl) ?_
    refine p_cV (As := []) (b := y) (rest := []) (ci := 9) X hH (c_X8_thrown l G y _ _ h4 ht) mv_X8_thrown (Or.inl m_899) rfl hc9b (by decide) rfl hl.1 (Nat.le_of_ble_eq_true rfl) dL_law_840 (c2 := cells + 20) (s2 := slots + 240) ⟨by show cells + 20 + 0 ≤ _; omega, by show cells + 20 ≤ 601024; omega, by show slots + 240 + 0 ≤ _; omega, by show slots + 240 ≤ 7293034; omega⟩ (fun H locs hH => ?_)
    refine lv_iload hx hb dL_law_843 (lv_at hl 1 rfl) ?_
    refine lv_icmp_eq (tgt := 850) hx hb dL_law_845 (by decide) (fun _ => ?_) (fun z0 => absurd rfl z0)
    refine lv_iload hx hb dL_law_850 (lv_at hl 1 rfl) ?_
    refine lv_if_ne (tgt := 867) hx hb dL_law_852 (by decide) (fun _ => ?_) (fun z0 => absurd z0 hne)
    refine lv_goto (tgt := 1526) hx hb dL_law_867 (by decide) ?_
    exact kk h4 H locs ls hP hH (lv_sub hl [2, 3, 4, 5, 6] rfl)
abbrev okE_L_put : String → Prop := fun E => E = "java/lang/IndexOutOfBoundsException" ∨ E = "java/lang/IllegalArgumentException" ∨ E = "java/lang/IllegalStateException"
set_option maxRecDepth 100000 in
set_option maxHeartbeats 4000000 in
theorem lc_put (X : Cx G p s m args meth c cL_law 9 "VaneHouseLaw" meth.name ret) (hX : va_X b L xs s s.heap) (hbl : b < s.heap.size) (hbA : ¬ gB G ≤ b) (hL : L ≤ 3584) (hfl : l.stackTraces = false) {x y z : Nat} {i : Int32} {j : Nat} (hi : i = nI j) (hj : j + 7 ≤ L) (P : PH → Prop) (hH : Hx G s h H locs) (hl : lv_has ls 9 [(0, .ref b), (1, .ref x), (2, .ref y), (3, .ref z), (4, .int i)]) (hst : stX G x y z (f_X6_put G x (xs (j + 1)) (xs (j + 2)) h) okE_L_put cd_L_put (fun h => f_X8_put G y (xs (j + 1)) (xs (j + 2)) h) h P) (hcl : cells + 20 ≤ 601024) (hsl : slots + 240 ≤ 7293034)
    (kk : ∀ (h' : PH) (H' : Heap) (locs' : List Loc) (ls' : Array Slot), P h' → Hx G s h' H' locs' → lv_has ls' 9 [(0, .ref b), (1, .ref x), (2, .ref y), (3, .ref z), (4, .int i)] → W p l e room_1 s m args below meth c H' locs' (cells + 20) (slots + 240) Q (F0 m 1526 ls' [])) : W p l e room_1 s m args below meth c H locs cells slots Q (F0 m 870 ls []) := by
  have hx := X.1
  have hb := X.2.1
  refine lv_aload_n hx hb dL_law_870 rfl (lv_at hl 1 rfl) ?_
  refine lv_aload_n hx hb dL_law_871 rfl (lv_at hl 0 rfl) ?_
  refine lv_iload hx hb dL_law_872 (lv_at hl 4 rfl) ?_
  refine lv_iconst (v := 1) hx hb dL_law_874 (by decide) ?_
  refine lv_iadd hx hb dL_law_875 ?_
  refine p_sld X hH hX hbl hbA hL (z := i + (1 : Int32)) (j := j + 1) (by rw [hi]; exact nI_add j 1) (by omega) dL_law_876 ?_
  refine lv_aload_n hx hb dL_law_877 rfl (lv_at hl 0 rfl) ?_
  refine lv_iload hx hb dL_law_878 (lv_at hl 4 rfl) ?_
  refine lv_iconst (v := 2) hx hb dL_law_880 (by decide) ?_
  refine lv_iadd hx hb dL_law_881 ?_
  refine p_sld X hH hX hbl hbA hL (z := i + (2 : Int32)) (j := j + 2) (by rw [hi]; exact nI_add j 2) (by omega) dL_law_882 ?_
  refine lv_aload_n hx hb dL_law_883 rfl (lv_at hl 3 rfl) ?_
  obtain ⟨o, h1, hf, ⟨u7, hc7⟩, hE, hok, hex⟩ := hst
  have hout : ∃ h2, (∀ r, o = .inl r → aJs h1 z (0 : Int32) r.toInt64 = some h2 ∧ rfS G y z (fun h => f_X8_put G y (xs (j + 1)) (xs (j + 2)) h) h2 0 P) := by
    cases o with
    | inl r => obtain ⟨h2, q1, q2⟩ := hok r rfl; exact ⟨h2, fun r2 e2 => by cases e2; exact ⟨q1, q2⟩⟩
    | inr E => exact ⟨h1, fun r2 e2 => by cases e2⟩
  obtain ⟨h2, hout⟩ := hout
  refine p_cW (As := [.ref x, .int (xs (j + 1)), .int (xs (j + 2)), .ref z]) (rest := []) X hH (c_L_put l hfl G x (xs (j + 1)) (xs (j + 2)) z h o h1 hf hc7 h2 (fun r e2 => (hout r e2).1) (fun E e2 => (hE E e2).1)) mw_L_put m_656 (by decide) rfl hl.1 (Nat.le_of_ble_eq_true rfl) dL_law_884 (c2 := cells + 10) (s2 := slots + 140) ⟨by show cells + 3 ≤ _; omega, by show cells + 10 ≤ 601024; omega, by show slots + 56 ≤ _; omega, by show slots + 140 ≤ 7293034; omega⟩ (fun r H locs ho hH => ?_) (fun E H locs sz ho hH => ?_)
  · obtain ⟨⟨u9, hc9⟩, bb, h3, hg, ⟨u9b, hc9b⟩, h4, ht, haJ, hP⟩ := (hout r ho).2
    refine lv_istore (lv' := [(5, .int (0 : Int32)), (0, .ref b), (1, .ref x), (2, .ref y), (3, .ref z), (4, .int i)]) hx hb dL_law_887 hl (by decide) rfl (fun ls hl => ?_)
    refine lv_aload_n hx hb dL_law_889 rfl (lv_at hl 3 rfl) ?_
    refine lv_aload_n hx hb dL_law_890 rfl (lv_at hl 1 rfl) ?_
    refine lv_iload hx hb dL_law_891 (lv_at hl 5 rfl) ?_
    refine lv_iconst (v := 1) hx hb dL_law_893 (by decide) ?_
    refine lv_iadd hx hb dL_law_894 ?_
    refine p_sld X hH hX hbl hbA hL (z := i + (1 : Int32)) (j := j + 1) (by rw [hi]; exact nI_add j 1) (by omega) dL_law_895 ?_
    refine lv_aload_n hx hb dL_law_896 rfl (lv_at hl 1 rfl) ?_
    refine lv_iload hx hb dL_law_897 (lv_at hl 5 rfl) ?_
    refine lv_iconst (v := 2) hx hb dL_law_899 (by decide) ?_
    refine lv_iadd hx hb dL_law_900 ?_
    refine p_sld X hH hX hbl hbA hL (z := i + (2 : Int32)) (j := j + 2) (by rw [hi]; exact nI_add j 2) (by omega) dL_law_901 ?_
    refine p_cV (As := [.int (xs (j + 1)), .int (xs (j + 2))]) (b := y) (rest := []) (ci := 9) X hH (c_X8_put l G y (xs (j + 1)) (xs (j + 2)) _ bb h3 hg) mv_X8_put (Or.inl m_998) rfl hc9 (by decide) rfl hl.1 (Nat.le_of_ble_eq_true rfl) dL_law_902 (c2 := cells + 20) (s2 := slots + 240) ⟨by show cells + 10 + 0 ≤ _; omega, by show cells + 20 ≤ 601024; omega, by show slots + 140 + 0 ≤ _; omega, by show slots + 240 ≤ 7293034; omega⟩ (fun H locs hH => ?_)
    refine lv_istore (lv' := [(6, .int bb), (5, .int (0 : Int32)), (0, .ref b), (1, .ref x), (2, .ref y), (3, .ref z), (4, .int i)]) hx hb dL_law_905 hl (by decide) rfl (fun ls hl => ?_)
    refine lv_aload_n hx hb dL_law_907 rfl (lv_at hl 4 rfl) ?_
    refine p_cV (As := []) (b := y) (rest := []) (ci := 9) X hH (c_X8_thrown l G y _ _ h4 ht) mv_X8_thrown (Or.inl m_899) rfl hc9b (by decide) rfl hl.1 (Nat.le_of_ble_eq_true rfl) dL_law_908 (c2 := cells + 20) (s2 := slots + 240) ⟨by show cells + 20 + 0 ≤ _; omega, by show cells + 20 ≤ 601024; omega, by show slots + 240 + 0 ≤ _; omega, by show slots + 240 ≤ 7293034; omega⟩ (fun H locs hH => ?_)
    refine lv_iload hx hb dL_law_911 (lv_at hl 1 rfl) ?_
    refine lv_icmp_eq (tgt := 918) hx hb dL_law_913 (by decide) (fun _ => ?_) (fun z0 => absurd rfl z0)
    refine lv_iload hx hb dL_law_918 (lv_at hl 1 rfl) ?_
    refine lv_if_ne (tgt := 935) hx hb dL_law_920 (by decide) (fun z0 => absurd rfl z0) (fun _ => ?_)
    refine lv_aload_n hx hb dL_law_923 rfl (lv_at hl 5 rfl) ?_
    refine lv_iconst (v := 0) hx hb dL_law_924 (by decide) ?_
    have hf5 : rd (aJ h4 z 0) (fun w => some w) = some bb.toInt64 := by rw [haJ rfl]; rfl
    refine p_lald X hH hf5 dL_law_925 (fun w hw hf6 => ?_)
    cases hf6
    refine lv_iload hx hb dL_law_926 (lv_at hl 0 rfl) ?_
    refine lv_i2l (v := bb.toInt64) hx hb dL_law_928 rfl ?_
    refine W.lcmp hx hb dL_law_929 ?_
    refine lv_if_eq (tgt := 935) hx hb dL_law_930 (by decide) (fun _ => ?_) (fun z0 => absurd (lg_same _) z0)
    refine lv_goto (tgt := 1526) hx hb dL_law_935 (by decide) ?_
    exact kk h4 H locs ls hP hH (lv_sub hl [2, 3, 4, 5, 6] rfl)
  · obtain ⟨⟨u9, hc9⟩, bb, h3, hg, ⟨u9b, hc9b⟩, h4, ht, haJ, hP⟩ := hex E ho sz (Hx.lt hH)
    have hne := (hE E ho).2
    refine lv_istore (lv' := [(5, .int (cd_L_put E)), (0, .ref b), (1, .ref x), (2, .ref y), (3, .ref z), (4, .int i)]) hx hb dL_law_887 hl (by decide) rfl (fun ls hl => ?_)
    refine lv_aload_n hx hb dL_law_889 rfl (lv_at hl 3 rfl) ?_
    refine lv_aload_n hx hb dL_law_890 rfl (lv_at hl 1 rfl) ?_
    refine lv_iload hx hb dL_law_891 (lv_at hl 5 rfl) ?_
    refine lv_iconst (v := 1) hx hb dL_law_893 (by decide) ?_
    refine lv_iadd hx hb dL_law_894 ?_
    refine p_sld X hH hX hbl hbA hL (z := i + (1 : Int32)) (j := j + 1) (by rw [hi]; exact nI_add j 1) (by omega) dL_law_895 ?_
    refine lv_aload_n hx hb dL_law_896 rfl (lv_at hl 1 rfl) ?_
    refine lv_iload hx hb dL_law_897 (lv_at hl 5 rfl) ?_
    refine lv_iconst (v := 2) hx hb dL_law_899 (by decide) ?_
    refine lv_iadd hx hb dL_law_900 ?_
    refine p_sld X hH hX hbl hbA hL (z := i + (2 : Int32)) (j := j + 2) (by rw [hi]; exact nI_add j 2) (by omega) dL_law_901 ?_
    refine p_cV (As := [.int (xs (j + 1)), .int (xs (j + 2))]) (b := y) (rest := []) (ci := 9) X hH (c_X8_put l G y (xs (j + 1)) (xs (j + 2)) _ bb h3 hg) mv_X8_put (Or.inl m_998) rfl hc9 (by decide) rfl hl.1 (Nat.le_of_ble_eq_true rfl) dL_law_902 (c2 := cells + 20) (s2 := slots + 240) ⟨by show cells + 10 + 0 ≤ _; omega, by show cells + 20 ≤ 601024; omega, by show slots + 140 + 0 ≤ _; omega, by show slots + 240 ≤ 7293034; omega⟩ (fun H locs hH => ?_)
    refine lv_istore (lv' := [(6, .int bb), (5, .int (cd_L_put E)), (0, .ref b), (1, .ref x), (2, .ref y), (3, .ref z), (4, .int i)]) hx hb dL_law_905 hl (by decide) rfl (fun ls hl => ?_)
    refine lv_aload_n hx hb dL_law_907 rfl (lv_at hl 4 rfl) ?_
    refine p_cV (As := []) (b := y) (rest := []) (ci := 9) X hH (c_X8_thrown l G y _ _ h4 ht) mv_X8_thrown (Or.inl m_899) rfl hc9b (by decide) rfl hl.1 (Nat.le_of_ble_eq_true rfl) dL_law_908 (c2 := cells + 20) (s2 := slots + 240) ⟨by show cells + 20 + 0 ≤ _; omega, by show cells + 20 ≤ 601024; omega, by show slots + 240 + 0 ≤ _; omega, by show slots + 240 ≤ 7293034; omega⟩ (fun H locs hH => ?_)
    refine lv_iload hx hb dL_law_911 (lv_at hl 1 rfl) ?_
    refine lv_icmp_eq (tgt := 918) hx hb dL_law_913 (by decide) (fun _ => ?_) (fun z0 => absurd rfl z0)
    refine lv_iload hx hb dL_law_918 (lv_at hl 1 rfl) ?_
    refine lv_if_ne (tgt := 935) hx hb dL_law_920 (by decide) (fun _ => ?_) (fun z0 => absurd z0 hne)
    refine lv_goto (tgt := 1526) hx hb dL_law_935 (by decide) ?_
    exact kk h4 H locs ls hP hH (lv_sub hl [2, 3, 4, 5, 6] rfl)
abbrev okE_L_motion : String → Prop := fun E => E = "java/lang/IndexOutOfBoundsException"
set_option maxRecDepth 100000 in
set_option maxHeartbeats 4000000 in
theorem lc_motion (X : Cx G p s m args meth c cL_law 9 "VaneHouseLaw" meth.name ret) (hX : va_X b L xs s s.heap) (hbl : b < s.heap.size) (hbA : ¬ gB G ≤ b) (hL : L ≤ 3584) (hfl : l.stackTraces = false) {x y z : Nat} {i : Int32} {j : Nat} (hi : i = nI j) (hj : j + 7 ≤ L) (P : PH → Prop) (hH : Hx G s h H locs) (hl : lv_has ls 9 [(0, .ref b), (1, .ref x), (2, .ref y), (3, .ref z), (4, .int i)]) (hst : stX G x y z (f_X6_motion G x (xs (j + 1)) (xs (j + 2)) h) okE_L_motion cd_L_motion (fun h => f_X8_motion G y (xs (j + 1)) (xs (j + 2)) h) h P) (hcl : cells + 20 ≤ 601024) (hsl : slots + 240 ≤ 7293034)
    (kk : ∀ (h' : PH) (H' : Heap) (locs' : List Loc) (ls' : Array Slot), P h' → Hx G s h' H' locs' → lv_has ls' 9 [(0, .ref b), (1, .ref x), (2, .ref y), (3, .ref z), (4, .int i)] → W p l e room_1 s m args below meth c H' locs' (cells + 20) (slots + 240) Q (F0 m 1526 ls' [])) : W p l e room_1 s m args below meth c H locs cells slots Q (F0 m 938 ls []) := by
  have hx := X.1
  have hb := X.2.1
  refine lv_aload_n hx hb dL_law_938 rfl (lv_at hl 1 rfl) ?_
  refine lv_aload_n hx hb dL_law_939 rfl (lv_at hl 0 rfl) ?_
  refine lv_iload hx hb dL_law_940 (lv_at hl 4 rfl) ?_
  refine lv_iconst (v := 1) hx hb dL_law_942 (by decide) ?_
  refine lv_iadd hx hb dL_law_943 ?_
  refine p_sld X hH hX hbl hbA hL (z := i + (1 : Int32)) (j := j + 1) (by rw [hi]; exact nI_add j 1) (by omega) dL_law_944 ?_
  refine lv_aload_n hx hb dL_law_945 rfl (lv_at hl 0 rfl) ?_
  refine lv_iload hx hb dL_law_946 (lv_at hl 4 rfl) ?_
  refine lv_iconst (v := 2) hx hb dL_law_948 (by decide) ?_
  refine lv_iadd hx hb dL_law_949 ?_
  refine p_sld X hH hX hbl hbA hL (z := i + (2 : Int32)) (j := j + 2) (by rw [hi]; exact nI_add j 2) (by omega) dL_law_950 ?_
  refine lv_aload_n hx hb dL_law_951 rfl (lv_at hl 3 rfl) ?_
  obtain ⟨o, h1, hf, ⟨u7, hc7⟩, hE, hok, hex⟩ := hst
  have hout : ∃ h2, (∀ r, o = .inl r → aJs h1 z (0 : Int32) r.toInt64 = some h2 ∧ rfS G y z (fun h => f_X8_motion G y (xs (j + 1)) (xs (j + 2)) h) h2 0 P) := by
    cases o with
    | inl r => obtain ⟨h2, q1, q2⟩ := hok r rfl; exact ⟨h2, fun r2 e2 => by cases e2; exact ⟨q1, q2⟩⟩
    | inr E => exact ⟨h1, fun r2 e2 => by cases e2⟩
  obtain ⟨h2, hout⟩ := hout
  refine p_cW (As := [.ref x, .int (xs (j + 1)), .int (xs (j + 2)), .ref z]) (rest := []) X hH (c_L_motion l hfl G x (xs (j + 1)) (xs (j + 2)) z h o h1 hf hc7 h2 (fun r e2 => (hout r e2).1) (fun E e2 => (hE E e2).1)) mw_L_motion m_684 (by decide) rfl hl.1 (Nat.le_of_ble_eq_true rfl) dL_law_952 (c2 := cells + 10) (s2 := slots + 140) ⟨by show cells + 1 ≤ _; omega, by show cells + 10 ≤ 601024; omega, by show slots + 6 ≤ _; omega, by show slots + 140 ≤ 7293034; omega⟩ (fun r H locs ho hH => ?_) (fun E H locs sz ho hH => ?_)
  · obtain ⟨⟨u9, hc9⟩, bb, h3, hg, ⟨u9b, hc9b⟩, h4, ht, haJ, hP⟩ := (hout r ho).2
    refine lv_istore (lv' := [(5, .int (0 : Int32)), (0, .ref b), (1, .ref x), (2, .ref y), (3, .ref z), (4, .int i)]) hx hb dL_law_955 hl (by decide) rfl (fun ls hl => ?_)
    refine lv_aload_n hx hb dL_law_957 rfl (lv_at hl 3 rfl) ?_
    refine lv_aload_n hx hb dL_law_958 rfl (lv_at hl 1 rfl) ?_
    refine lv_iload hx hb dL_law_959 (lv_at hl 5 rfl) ?_
    refine lv_iconst (v := 1) hx hb dL_law_961 (by decide) ?_
    refine lv_iadd hx hb dL_law_962 ?_
    refine p_sld X hH hX hbl hbA hL (z := i + (1 : Int32)) (j := j + 1) (by rw [hi]; exact nI_add j 1) (by omega) dL_law_963 ?_
    refine lv_aload_n hx hb dL_law_964 rfl (lv_at hl 1 rfl) ?_
    refine lv_iload hx hb dL_law_965 (lv_at hl 5 rfl) ?_
    refine lv_iconst (v := 2) hx hb dL_law_967 (by decide) ?_
    refine lv_iadd hx hb dL_law_968 ?_
    refine p_sld X hH hX hbl hbA hL (z := i + (2 : Int32)) (j := j + 2) (by rw [hi]; exact nI_add j 2) (by omega) dL_law_969 ?_
    refine p_cV (As := [.int (xs (j + 1)), .int (xs (j + 2))]) (b := y) (rest := []) (ci := 9) X hH (c_X8_motion l G y (xs (j + 1)) (xs (j + 2)) _ bb h3 hg) mv_X8_motion (Or.inl m_1006) rfl hc9 (by decide) rfl hl.1 (Nat.le_of_ble_eq_true rfl) dL_law_970 (c2 := cells + 20) (s2 := slots + 240) ⟨by show cells + 10 + 0 ≤ _; omega, by show cells + 20 ≤ 601024; omega, by show slots + 140 + 0 ≤ _; omega, by show slots + 240 ≤ 7293034; omega⟩ (fun H locs hH => ?_)
    refine lv_istore (lv' := [(6, .int bb), (5, .int (0 : Int32)), (0, .ref b), (1, .ref x), (2, .ref y), (3, .ref z), (4, .int i)]) hx hb dL_law_973 hl (by decide) rfl (fun ls hl => ?_)
    refine lv_aload_n hx hb dL_law_975 rfl (lv_at hl 4 rfl) ?_
    refine p_cV (As := []) (b := y) (rest := []) (ci := 9) X hH (c_X8_thrown l G y _ _ h4 ht) mv_X8_thrown (Or.inl m_899) rfl hc9b (by decide) rfl hl.1 (Nat.le_of_ble_eq_true rfl) dL_law_976 (c2 := cells + 20) (s2 := slots + 240) ⟨by show cells + 20 + 0 ≤ _; omega, by show cells + 20 ≤ 601024; omega, by show slots + 240 + 0 ≤ _; omega, by show slots + 240 ≤ 7293034; omega⟩ (fun H locs hH => ?_)
    refine lv_iload hx hb dL_law_979 (lv_at hl 1 rfl) ?_
    refine lv_icmp_eq (tgt := 986) hx hb dL_law_981 (by decide) (fun _ => ?_) (fun z0 => absurd rfl z0)
    refine lv_iload hx hb dL_law_986 (lv_at hl 1 rfl) ?_
    refine lv_if_ne (tgt := 1003) hx hb dL_law_988 (by decide) (fun z0 => absurd rfl z0) (fun _ => ?_)
    refine lv_aload_n hx hb dL_law_991 rfl (lv_at hl 5 rfl) ?_
    refine lv_iconst (v := 0) hx hb dL_law_992 (by decide) ?_
    have hf5 : rd (aJ h4 z 0) (fun w => some w) = some bb.toInt64 := by rw [haJ rfl]; rfl
    refine p_lald X hH hf5 dL_law_993 (fun w hw hf6 => ?_)
    cases hf6
    refine lv_iload hx hb dL_law_994 (lv_at hl 0 rfl) ?_
    refine lv_i2l (v := bb.toInt64) hx hb dL_law_996 rfl ?_
    refine W.lcmp hx hb dL_law_997 ?_
    refine lv_if_eq (tgt := 1003) hx hb dL_law_998 (by decide) (fun _ => ?_) (fun z0 => absurd (lg_same _) z0)
    refine lv_goto (tgt := 1526) hx hb dL_law_1003 (by decide) ?_
    exact kk h4 H locs ls hP hH (lv_sub hl [2, 3, 4, 5, 6] rfl)
  · obtain ⟨⟨u9, hc9⟩, bb, h3, hg, ⟨u9b, hc9b⟩, h4, ht, haJ, hP⟩ := hex E ho sz (Hx.lt hH)
    have hne := (hE E ho).2
    refine lv_istore (lv' := [(5, .int (cd_L_motion E)), (0, .ref b), (1, .ref x), (2, .ref y), (3, .ref z), (4, .int i)]) hx hb dL_law_955 hl (by decide) rfl (fun ls hl => ?_)
    refine lv_aload_n hx hb dL_law_957 rfl (lv_at hl 3 rfl) ?_
    refine lv_aload_n hx hb dL_law_958 rfl (lv_at hl 1 rfl) ?_
    refine lv_iload hx hb dL_law_959 (lv_at hl 5 rfl) ?_
    refine lv_iconst (v := 1) hx hb dL_law_961 (by decide) ?_
    refine lv_iadd hx hb dL_law_962 ?_
    refine p_sld X hH hX hbl hbA hL (z := i + (1 : Int32)) (j := j + 1) (by rw [hi]; exact nI_add j 1) (by omega) dL_law_963 ?_
    refine lv_aload_n hx hb dL_law_964 rfl (lv_at hl 1 rfl) ?_
    refine lv_iload hx hb dL_law_965 (lv_at hl 5 rfl) ?_
    refine lv_iconst (v := 2) hx hb dL_law_967 (by decide) ?_
    refine lv_iadd hx hb dL_law_968 ?_
    refine p_sld X hH hX hbl hbA hL (z := i + (2 : Int32)) (j := j + 2) (by rw [hi]; exact nI_add j 2) (by omega) dL_law_969 ?_
    refine p_cV (As := [.int (xs (j + 1)), .int (xs (j + 2))]) (b := y) (rest := []) (ci := 9) X hH (c_X8_motion l G y (xs (j + 1)) (xs (j + 2)) _ bb h3 hg) mv_X8_motion (Or.inl m_1006) rfl hc9 (by decide) rfl hl.1 (Nat.le_of_ble_eq_true rfl) dL_law_970 (c2 := cells + 20) (s2 := slots + 240) ⟨by show cells + 10 + 0 ≤ _; omega, by show cells + 20 ≤ 601024; omega, by show slots + 140 + 0 ≤ _; omega, by show slots + 240 ≤ 7293034; omega⟩ (fun H locs hH => ?_)
    refine lv_istore (lv' := [(6, .int bb), (5, .int (cd_L_motion E)), (0, .ref b), (1, .ref x), (2, .ref y), (3, .ref z), (4, .int i)]) hx hb dL_law_973 hl (by decide) rfl (fun ls hl => ?_)
    refine lv_aload_n hx hb dL_law_975 rfl (lv_at hl 4 rfl) ?_
    refine p_cV (As := []) (b := y) (rest := []) (ci := 9) X hH (c_X8_thrown l G y _ _ h4 ht) mv_X8_thrown (Or.inl m_899) rfl hc9b (by decide) rfl hl.1 (Nat.le_of_ble_eq_true rfl) dL_law_976 (c2 := cells + 20) (s2 := slots + 240) ⟨by show cells + 20 + 0 ≤ _; omega, by show cells + 20 ≤ 601024; omega, by show slots + 240 + 0 ≤ _; omega, by show slots + 240 ≤ 7293034; omega⟩ (fun H locs hH => ?_)
    refine lv_iload hx hb dL_law_979 (lv_at hl 1 rfl) ?_
    refine lv_icmp_eq (tgt := 986) hx hb dL_law_981 (by decide) (fun _ => ?_) (fun z0 => absurd rfl z0)
    refine lv_iload hx hb dL_law_986 (lv_at hl 1 rfl) ?_
    refine lv_if_ne (tgt := 1003) hx hb dL_law_988 (by decide) (fun _ => ?_) (fun z0 => absurd z0 hne)
    refine lv_goto (tgt := 1526) hx hb dL_law_1003 (by decide) ?_
    exact kk h4 H locs ls hP hH (lv_sub hl [2, 3, 4, 5, 6] rfl)
abbrev okE_L_stand : String → Prop := fun E => E = "java/lang/IndexOutOfBoundsException"
set_option maxRecDepth 100000 in
set_option maxHeartbeats 4000000 in
theorem lc_stand (X : Cx G p s m args meth c cL_law 9 "VaneHouseLaw" meth.name ret) (hX : va_X b L xs s s.heap) (hbl : b < s.heap.size) (hbA : ¬ gB G ≤ b) (hL : L ≤ 3584) (hfl : l.stackTraces = false) {x y z : Nat} {i : Int32} {j : Nat} (hi : i = nI j) (hj : j + 7 ≤ L) (P : PH → Prop) (hH : Hx G s h H locs) (hl : lv_has ls 9 [(0, .ref b), (1, .ref x), (2, .ref y), (3, .ref z), (4, .int i)]) (hst : stX G x y z (f_X6_stand G x (xs (j + 1)) (xs (j + 2)) h) okE_L_stand cd_L_stand (fun h => f_X8_stand G y (xs (j + 1)) (xs (j + 2)) h) h P) (hcl : cells + 20 ≤ 601024) (hsl : slots + 240 ≤ 7293034)
    (kk : ∀ (h' : PH) (H' : Heap) (locs' : List Loc) (ls' : Array Slot), P h' → Hx G s h' H' locs' → lv_has ls' 9 [(0, .ref b), (1, .ref x), (2, .ref y), (3, .ref z), (4, .int i)] → W p l e room_1 s m args below meth c H' locs' (cells + 20) (slots + 240) Q (F0 m 1526 ls' [])) : W p l e room_1 s m args below meth c H locs cells slots Q (F0 m 1006 ls []) := by
  have hx := X.1
  have hb := X.2.1
  refine lv_aload_n hx hb dL_law_1006 rfl (lv_at hl 1 rfl) ?_
  refine lv_aload_n hx hb dL_law_1007 rfl (lv_at hl 0 rfl) ?_
  refine lv_iload hx hb dL_law_1008 (lv_at hl 4 rfl) ?_
  refine lv_iconst (v := 1) hx hb dL_law_1010 (by decide) ?_
  refine lv_iadd hx hb dL_law_1011 ?_
  refine p_sld X hH hX hbl hbA hL (z := i + (1 : Int32)) (j := j + 1) (by rw [hi]; exact nI_add j 1) (by omega) dL_law_1012 ?_
  refine lv_aload_n hx hb dL_law_1013 rfl (lv_at hl 0 rfl) ?_
  refine lv_iload hx hb dL_law_1014 (lv_at hl 4 rfl) ?_
  refine lv_iconst (v := 2) hx hb dL_law_1016 (by decide) ?_
  refine lv_iadd hx hb dL_law_1017 ?_
  refine p_sld X hH hX hbl hbA hL (z := i + (2 : Int32)) (j := j + 2) (by rw [hi]; exact nI_add j 2) (by omega) dL_law_1018 ?_
  refine lv_aload_n hx hb dL_law_1019 rfl (lv_at hl 3 rfl) ?_
  obtain ⟨o, h1, hf, ⟨u7, hc7⟩, hE, hok, hex⟩ := hst
  have hout : ∃ h2, (∀ r, o = .inl r → aJs h1 z (0 : Int32) r.toInt64 = some h2 ∧ rfS G y z (fun h => f_X8_stand G y (xs (j + 1)) (xs (j + 2)) h) h2 0 P) := by
    cases o with
    | inl r => obtain ⟨h2, q1, q2⟩ := hok r rfl; exact ⟨h2, fun r2 e2 => by cases e2; exact ⟨q1, q2⟩⟩
    | inr E => exact ⟨h1, fun r2 e2 => by cases e2⟩
  obtain ⟨h2, hout⟩ := hout
  refine p_cW (As := [.ref x, .int (xs (j + 1)), .int (xs (j + 2)), .ref z]) (rest := []) X hH (c_L_stand l hfl G x (xs (j + 1)) (xs (j + 2)) z h o h1 hf hc7 h2 (fun r e2 => (hout r e2).1) (fun E e2 => (hE E e2).1)) mw_L_stand m_692 (by decide) rfl hl.1 (Nat.le_of_ble_eq_true rfl) dL_law_1020 (c2 := cells + 10) (s2 := slots + 140) ⟨by show cells + 1 ≤ _; omega, by show cells + 10 ≤ 601024; omega, by show slots + 6 ≤ _; omega, by show slots + 140 ≤ 7293034; omega⟩ (fun r H locs ho hH => ?_) (fun E H locs sz ho hH => ?_)
  · obtain ⟨⟨u9, hc9⟩, bb, h3, hg, ⟨u9b, hc9b⟩, h4, ht, haJ, hP⟩ := (hout r ho).2
    refine lv_istore (lv' := [(5, .int (0 : Int32)), (0, .ref b), (1, .ref x), (2, .ref y), (3, .ref z), (4, .int i)]) hx hb dL_law_1023 hl (by decide) rfl (fun ls hl => ?_)
    refine lv_aload_n hx hb dL_law_1025 rfl (lv_at hl 3 rfl) ?_
    refine lv_aload_n hx hb dL_law_1026 rfl (lv_at hl 1 rfl) ?_
    refine lv_iload hx hb dL_law_1027 (lv_at hl 5 rfl) ?_
    refine lv_iconst (v := 1) hx hb dL_law_1029 (by decide) ?_
    refine lv_iadd hx hb dL_law_1030 ?_
    refine p_sld X hH hX hbl hbA hL (z := i + (1 : Int32)) (j := j + 1) (by rw [hi]; exact nI_add j 1) (by omega) dL_law_1031 ?_
    refine lv_aload_n hx hb dL_law_1032 rfl (lv_at hl 1 rfl) ?_
    refine lv_iload hx hb dL_law_1033 (lv_at hl 5 rfl) ?_
    refine lv_iconst (v := 2) hx hb dL_law_1035 (by decide) ?_
    refine lv_iadd hx hb dL_law_1036 ?_
    refine p_sld X hH hX hbl hbA hL (z := i + (2 : Int32)) (j := j + 2) (by rw [hi]; exact nI_add j 2) (by omega) dL_law_1037 ?_
    refine p_cV (As := [.int (xs (j + 1)), .int (xs (j + 2))]) (b := y) (rest := []) (ci := 9) X hH (c_X8_stand l G y (xs (j + 1)) (xs (j + 2)) _ bb h3 hg) mv_X8_stand (Or.inl m_1029) rfl hc9 (by decide) rfl hl.1 (Nat.le_of_ble_eq_true rfl) dL_law_1038 (c2 := cells + 20) (s2 := slots + 240) ⟨by show cells + 10 + 0 ≤ _; omega, by show cells + 20 ≤ 601024; omega, by show slots + 140 + 0 ≤ _; omega, by show slots + 240 ≤ 7293034; omega⟩ (fun H locs hH => ?_)
    refine lv_istore (lv' := [(6, .int bb), (5, .int (0 : Int32)), (0, .ref b), (1, .ref x), (2, .ref y), (3, .ref z), (4, .int i)]) hx hb dL_law_1041 hl (by decide) rfl (fun ls hl => ?_)
    refine lv_aload_n hx hb dL_law_1043 rfl (lv_at hl 4 rfl) ?_
    refine p_cV (As := []) (b := y) (rest := []) (ci := 9) X hH (c_X8_thrown l G y _ _ h4 ht) mv_X8_thrown (Or.inl m_899) rfl hc9b (by decide) rfl hl.1 (Nat.le_of_ble_eq_true rfl) dL_law_1044 (c2 := cells + 20) (s2 := slots + 240) ⟨by show cells + 20 + 0 ≤ _; omega, by show cells + 20 ≤ 601024; omega, by show slots + 240 + 0 ≤ _; omega, by show slots + 240 ≤ 7293034; omega⟩ (fun H locs hH => ?_)
    refine lv_iload hx hb dL_law_1047 (lv_at hl 1 rfl) ?_
    refine lv_icmp_eq (tgt := 1054) hx hb dL_law_1049 (by decide) (fun _ => ?_) (fun z0 => absurd rfl z0)
    refine lv_iload hx hb dL_law_1054 (lv_at hl 1 rfl) ?_
    refine lv_if_ne (tgt := 1071) hx hb dL_law_1056 (by decide) (fun z0 => absurd rfl z0) (fun _ => ?_)
    refine lv_aload_n hx hb dL_law_1059 rfl (lv_at hl 5 rfl) ?_
    refine lv_iconst (v := 0) hx hb dL_law_1060 (by decide) ?_
    have hf5 : rd (aJ h4 z 0) (fun w => some w) = some bb.toInt64 := by rw [haJ rfl]; rfl
    refine p_lald X hH hf5 dL_law_1061 (fun w hw hf6 => ?_)
    cases hf6
    refine lv_iload hx hb dL_law_1062 (lv_at hl 0 rfl) ?_
    refine lv_i2l (v := bb.toInt64) hx hb dL_law_1064 rfl ?_
    refine W.lcmp hx hb dL_law_1065 ?_
    refine lv_if_eq (tgt := 1071) hx hb dL_law_1066 (by decide) (fun _ => ?_) (fun z0 => absurd (lg_same _) z0)
    refine lv_goto (tgt := 1526) hx hb dL_law_1071 (by decide) ?_
    exact kk h4 H locs ls hP hH (lv_sub hl [2, 3, 4, 5, 6] rfl)
  · obtain ⟨⟨u9, hc9⟩, bb, h3, hg, ⟨u9b, hc9b⟩, h4, ht, haJ, hP⟩ := hex E ho sz (Hx.lt hH)
    have hne := (hE E ho).2
    refine lv_istore (lv' := [(5, .int (cd_L_stand E)), (0, .ref b), (1, .ref x), (2, .ref y), (3, .ref z), (4, .int i)]) hx hb dL_law_1023 hl (by decide) rfl (fun ls hl => ?_)
    refine lv_aload_n hx hb dL_law_1025 rfl (lv_at hl 3 rfl) ?_
    refine lv_aload_n hx hb dL_law_1026 rfl (lv_at hl 1 rfl) ?_
    refine lv_iload hx hb dL_law_1027 (lv_at hl 5 rfl) ?_
    refine lv_iconst (v := 1) hx hb dL_law_1029 (by decide) ?_
    refine lv_iadd hx hb dL_law_1030 ?_
    refine p_sld X hH hX hbl hbA hL (z := i + (1 : Int32)) (j := j + 1) (by rw [hi]; exact nI_add j 1) (by omega) dL_law_1031 ?_
    refine lv_aload_n hx hb dL_law_1032 rfl (lv_at hl 1 rfl) ?_
    refine lv_iload hx hb dL_law_1033 (lv_at hl 5 rfl) ?_
    refine lv_iconst (v := 2) hx hb dL_law_1035 (by decide) ?_
    refine lv_iadd hx hb dL_law_1036 ?_
    refine p_sld X hH hX hbl hbA hL (z := i + (2 : Int32)) (j := j + 2) (by rw [hi]; exact nI_add j 2) (by omega) dL_law_1037 ?_
    refine p_cV (As := [.int (xs (j + 1)), .int (xs (j + 2))]) (b := y) (rest := []) (ci := 9) X hH (c_X8_stand l G y (xs (j + 1)) (xs (j + 2)) _ bb h3 hg) mv_X8_stand (Or.inl m_1029) rfl hc9 (by decide) rfl hl.1 (Nat.le_of_ble_eq_true rfl) dL_law_1038 (c2 := cells + 20) (s2 := slots + 240) ⟨by show cells + 10 + 0 ≤ _; omega, by show cells + 20 ≤ 601024; omega, by show slots + 140 + 0 ≤ _; omega, by show slots + 240 ≤ 7293034; omega⟩ (fun H locs hH => ?_)
    refine lv_istore (lv' := [(6, .int bb), (5, .int (cd_L_stand E)), (0, .ref b), (1, .ref x), (2, .ref y), (3, .ref z), (4, .int i)]) hx hb dL_law_1041 hl (by decide) rfl (fun ls hl => ?_)
    refine lv_aload_n hx hb dL_law_1043 rfl (lv_at hl 4 rfl) ?_
    refine p_cV (As := []) (b := y) (rest := []) (ci := 9) X hH (c_X8_thrown l G y _ _ h4 ht) mv_X8_thrown (Or.inl m_899) rfl hc9b (by decide) rfl hl.1 (Nat.le_of_ble_eq_true rfl) dL_law_1044 (c2 := cells + 20) (s2 := slots + 240) ⟨by show cells + 20 + 0 ≤ _; omega, by show cells + 20 ≤ 601024; omega, by show slots + 240 + 0 ≤ _; omega, by show slots + 240 ≤ 7293034; omega⟩ (fun H locs hH => ?_)
    refine lv_iload hx hb dL_law_1047 (lv_at hl 1 rfl) ?_
    refine lv_icmp_eq (tgt := 1054) hx hb dL_law_1049 (by decide) (fun _ => ?_) (fun z0 => absurd rfl z0)
    refine lv_iload hx hb dL_law_1054 (lv_at hl 1 rfl) ?_
    refine lv_if_ne (tgt := 1071) hx hb dL_law_1056 (by decide) (fun _ => ?_) (fun z0 => absurd z0 hne)
    refine lv_goto (tgt := 1526) hx hb dL_law_1071 (by decide) ?_
    exact kk h4 H locs ls hP hH (lv_sub hl [2, 3, 4, 5, 6] rfl)
abbrev okE_L_pass : String → Prop := fun E => E = "java/lang/IllegalArgumentException" ∨ E = "java/lang/IllegalStateException"
set_option maxRecDepth 100000 in
set_option maxHeartbeats 4000000 in
theorem lc_pass (X : Cx G p s m args meth c cL_law 9 "VaneHouseLaw" meth.name ret) (hX : va_X b L xs s s.heap) (hbl : b < s.heap.size) (hbA : ¬ gB G ≤ b) (hL : L ≤ 3584) (hfl : l.stackTraces = false) {x y z : Nat} {i : Int32} {j : Nat} (hi : i = nI j) (hj : j + 7 ≤ L) (P : PH → Prop) (hH : Hx G s h H locs) (hl : lv_has ls 9 [(0, .ref b), (1, .ref x), (2, .ref y), (3, .ref z), (4, .int i)]) (hst : stX G x y z (f_X6_pass G x (xs (j + 1)) h) okE_L_pass cd_L_pass (fun h => f_X8_pass G y (xs (j + 1)) h) h P) (hcl : cells + 20 ≤ 601024) (hsl : slots + 240 ≤ 7293034)
    (kk : ∀ (h' : PH) (H' : Heap) (locs' : List Loc) (ls' : Array Slot), P h' → Hx G s h' H' locs' → lv_has ls' 9 [(0, .ref b), (1, .ref x), (2, .ref y), (3, .ref z), (4, .int i)] → W p l e room_1 s m args below meth c H' locs' (cells + 20) (slots + 240) Q (F0 m 1526 ls' [])) : W p l e room_1 s m args below meth c H locs cells slots Q (F0 m 1074 ls []) := by
  have hx := X.1
  have hb := X.2.1
  refine lv_aload_n hx hb dL_law_1074 rfl (lv_at hl 1 rfl) ?_
  refine lv_aload_n hx hb dL_law_1075 rfl (lv_at hl 0 rfl) ?_
  refine lv_iload hx hb dL_law_1076 (lv_at hl 4 rfl) ?_
  refine lv_iconst (v := 1) hx hb dL_law_1078 (by decide) ?_
  refine lv_iadd hx hb dL_law_1079 ?_
  refine p_sld X hH hX hbl hbA hL (z := i + (1 : Int32)) (j := j + 1) (by rw [hi]; exact nI_add j 1) (by omega) dL_law_1080 ?_
  refine lv_aload_n hx hb dL_law_1081 rfl (lv_at hl 3 rfl) ?_
  obtain ⟨o, h1, hf, ⟨u7, hc7⟩, hE, hok, hex⟩ := hst
  have hout : ∃ h2, (∀ r, o = .inl r → aJs h1 z (0 : Int32) r.toInt64 = some h2 ∧ rfS G y z (fun h => f_X8_pass G y (xs (j + 1)) h) h2 0 P) := by
    cases o with
    | inl r => obtain ⟨h2, q1, q2⟩ := hok r rfl; exact ⟨h2, fun r2 e2 => by cases e2; exact ⟨q1, q2⟩⟩
    | inr E => exact ⟨h1, fun r2 e2 => by cases e2⟩
  obtain ⟨h2, hout⟩ := hout
  refine p_cW (As := [.ref x, .int (xs (j + 1)), .ref z]) (rest := []) X hH (c_L_pass l hfl G x (xs (j + 1)) z h o h1 hf hc7 h2 (fun r e2 => (hout r e2).1) (fun E e2 => (hE E e2).1)) mw_L_pass m_700 (by decide) rfl hl.1 (Nat.le_of_ble_eq_true rfl) dL_law_1082 (c2 := cells + 10) (s2 := slots + 140) ⟨by show cells + 1 ≤ _; omega, by show cells + 10 ≤ 601024; omega, by show slots + 6 ≤ _; omega, by show slots + 140 ≤ 7293034; omega⟩ (fun r H locs ho hH => ?_) (fun E H locs sz ho hH => ?_)
  · obtain ⟨⟨u9, hc9⟩, bb, h3, hg, ⟨u9b, hc9b⟩, h4, ht, haJ, hP⟩ := (hout r ho).2
    refine lv_istore (lv' := [(5, .int (0 : Int32)), (0, .ref b), (1, .ref x), (2, .ref y), (3, .ref z), (4, .int i)]) hx hb dL_law_1085 hl (by decide) rfl (fun ls hl => ?_)
    refine lv_aload_n hx hb dL_law_1087 rfl (lv_at hl 3 rfl) ?_
    refine lv_aload_n hx hb dL_law_1088 rfl (lv_at hl 1 rfl) ?_
    refine lv_iload hx hb dL_law_1089 (lv_at hl 5 rfl) ?_
    refine lv_iconst (v := 1) hx hb dL_law_1091 (by decide) ?_
    refine lv_iadd hx hb dL_law_1092 ?_
    refine p_sld X hH hX hbl hbA hL (z := i + (1 : Int32)) (j := j + 1) (by rw [hi]; exact nI_add j 1) (by omega) dL_law_1093 ?_
    refine p_cV (As := [.int (xs (j + 1))]) (b := y) (rest := []) (ci := 9) X hH (c_X8_pass l G y (xs (j + 1)) _ bb h3 hg) mv_X8_pass (Or.inl m_1034) rfl hc9 (by decide) rfl hl.1 (Nat.le_of_ble_eq_true rfl) dL_law_1094 (c2 := cells + 20) (s2 := slots + 240) ⟨by show cells + 10 + 0 ≤ _; omega, by show cells + 20 ≤ 601024; omega, by show slots + 140 + 0 ≤ _; omega, by show slots + 240 ≤ 7293034; omega⟩ (fun H locs hH => ?_)
    refine lv_istore (lv' := [(6, .int bb), (5, .int (0 : Int32)), (0, .ref b), (1, .ref x), (2, .ref y), (3, .ref z), (4, .int i)]) hx hb dL_law_1097 hl (by decide) rfl (fun ls hl => ?_)
    refine lv_aload_n hx hb dL_law_1099 rfl (lv_at hl 4 rfl) ?_
    refine p_cV (As := []) (b := y) (rest := []) (ci := 9) X hH (c_X8_thrown l G y _ _ h4 ht) mv_X8_thrown (Or.inl m_899) rfl hc9b (by decide) rfl hl.1 (Nat.le_of_ble_eq_true rfl) dL_law_1100 (c2 := cells + 20) (s2 := slots + 240) ⟨by show cells + 20 + 0 ≤ _; omega, by show cells + 20 ≤ 601024; omega, by show slots + 240 + 0 ≤ _; omega, by show slots + 240 ≤ 7293034; omega⟩ (fun H locs hH => ?_)
    refine lv_iload hx hb dL_law_1103 (lv_at hl 1 rfl) ?_
    refine lv_icmp_eq (tgt := 1110) hx hb dL_law_1105 (by decide) (fun _ => ?_) (fun z0 => absurd rfl z0)
    refine lv_iload hx hb dL_law_1110 (lv_at hl 1 rfl) ?_
    refine lv_if_ne (tgt := 1127) hx hb dL_law_1112 (by decide) (fun z0 => absurd rfl z0) (fun _ => ?_)
    refine lv_aload_n hx hb dL_law_1115 rfl (lv_at hl 5 rfl) ?_
    refine lv_iconst (v := 0) hx hb dL_law_1116 (by decide) ?_
    have hf5 : rd (aJ h4 z 0) (fun w => some w) = some bb.toInt64 := by rw [haJ rfl]; rfl
    refine p_lald X hH hf5 dL_law_1117 (fun w hw hf6 => ?_)
    cases hf6
    refine lv_iload hx hb dL_law_1118 (lv_at hl 0 rfl) ?_
    refine lv_i2l (v := bb.toInt64) hx hb dL_law_1120 rfl ?_
    refine W.lcmp hx hb dL_law_1121 ?_
    refine lv_if_eq (tgt := 1127) hx hb dL_law_1122 (by decide) (fun _ => ?_) (fun z0 => absurd (lg_same _) z0)
    refine lv_goto (tgt := 1526) hx hb dL_law_1127 (by decide) ?_
    exact kk h4 H locs ls hP hH (lv_sub hl [2, 3, 4, 5, 6] rfl)
  · obtain ⟨⟨u9, hc9⟩, bb, h3, hg, ⟨u9b, hc9b⟩, h4, ht, haJ, hP⟩ := hex E ho sz (Hx.lt hH)
    have hne := (hE E ho).2
    refine lv_istore (lv' := [(5, .int (cd_L_pass E)), (0, .ref b), (1, .ref x), (2, .ref y), (3, .ref z), (4, .int i)]) hx hb dL_law_1085 hl (by decide) rfl (fun ls hl => ?_)
    refine lv_aload_n hx hb dL_law_1087 rfl (lv_at hl 3 rfl) ?_
    refine lv_aload_n hx hb dL_law_1088 rfl (lv_at hl 1 rfl) ?_
    refine lv_iload hx hb dL_law_1089 (lv_at hl 5 rfl) ?_
    refine lv_iconst (v := 1) hx hb dL_law_1091 (by decide) ?_
    refine lv_iadd hx hb dL_law_1092 ?_
    refine p_sld X hH hX hbl hbA hL (z := i + (1 : Int32)) (j := j + 1) (by rw [hi]; exact nI_add j 1) (by omega) dL_law_1093 ?_
    refine p_cV (As := [.int (xs (j + 1))]) (b := y) (rest := []) (ci := 9) X hH (c_X8_pass l G y (xs (j + 1)) _ bb h3 hg) mv_X8_pass (Or.inl m_1034) rfl hc9 (by decide) rfl hl.1 (Nat.le_of_ble_eq_true rfl) dL_law_1094 (c2 := cells + 20) (s2 := slots + 240) ⟨by show cells + 10 + 0 ≤ _; omega, by show cells + 20 ≤ 601024; omega, by show slots + 140 + 0 ≤ _; omega, by show slots + 240 ≤ 7293034; omega⟩ (fun H locs hH => ?_)
    refine lv_istore (lv' := [(6, .int bb), (5, .int (cd_L_pass E)), (0, .ref b), (1, .ref x), (2, .ref y), (3, .ref z), (4, .int i)]) hx hb dL_law_1097 hl (by decide) rfl (fun ls hl => ?_)
    refine lv_aload_n hx hb dL_law_1099 rfl (lv_at hl 4 rfl) ?_
    refine p_cV (As := []) (b := y) (rest := []) (ci := 9) X hH (c_X8_thrown l G y _ _ h4 ht) mv_X8_thrown (Or.inl m_899) rfl hc9b (by decide) rfl hl.1 (Nat.le_of_ble_eq_true rfl) dL_law_1100 (c2 := cells + 20) (s2 := slots + 240) ⟨by show cells + 20 + 0 ≤ _; omega, by show cells + 20 ≤ 601024; omega, by show slots + 240 + 0 ≤ _; omega, by show slots + 240 ≤ 7293034; omega⟩ (fun H locs hH => ?_)
    refine lv_iload hx hb dL_law_1103 (lv_at hl 1 rfl) ?_
    refine lv_icmp_eq (tgt := 1110) hx hb dL_law_1105 (by decide) (fun _ => ?_) (fun z0 => absurd rfl z0)
    refine lv_iload hx hb dL_law_1110 (lv_at hl 1 rfl) ?_
    refine lv_if_ne (tgt := 1127) hx hb dL_law_1112 (by decide) (fun _ => ?_) (fun z0 => absurd z0 hne)
    refine lv_goto (tgt := 1526) hx hb dL_law_1127 (by decide) ?_
    exact kk h4 H locs ls hP hH (lv_sub hl [2, 3, 4, 5, 6] rfl)
abbrev okE_L_count : String → Prop := fun E => E = "java/lang/IndexOutOfBoundsException"
set_option maxRecDepth 100000 in
set_option maxHeartbeats 4000000 in
theorem lc_count (X : Cx G p s m args meth c cL_law 9 "VaneHouseLaw" meth.name ret) (hX : va_X b L xs s s.heap) (hbl : b < s.heap.size) (hbA : ¬ gB G ≤ b) (hL : L ≤ 3584) (hfl : l.stackTraces = false) {x y z : Nat} {i : Int32} {j : Nat} (hi : i = nI j) (hj : j + 7 ≤ L) (P : PH → Prop) (hH : Hx G s h H locs) (hl : lv_has ls 9 [(0, .ref b), (1, .ref x), (2, .ref y), (3, .ref z), (4, .int i)]) (hst : stX G x y z (f_X6_count G x (xs (j + 1)) h) okE_L_count cd_L_count (fun h => f_X8_count G y (xs (j + 1)) h) h P) (hcl : cells + 20 ≤ 601024) (hsl : slots + 240 ≤ 7293034)
    (kk : ∀ (h' : PH) (H' : Heap) (locs' : List Loc) (ls' : Array Slot), P h' → Hx G s h' H' locs' → lv_has ls' 9 [(0, .ref b), (1, .ref x), (2, .ref y), (3, .ref z), (4, .int i)] → W p l e room_1 s m args below meth c H' locs' (cells + 20) (slots + 240) Q (F0 m 1526 ls' [])) : W p l e room_1 s m args below meth c H locs cells slots Q (F0 m 1130 ls []) := by
  have hx := X.1
  have hb := X.2.1
  refine lv_aload_n hx hb dL_law_1130 rfl (lv_at hl 1 rfl) ?_
  refine lv_aload_n hx hb dL_law_1131 rfl (lv_at hl 0 rfl) ?_
  refine lv_iload hx hb dL_law_1132 (lv_at hl 4 rfl) ?_
  refine lv_iconst (v := 1) hx hb dL_law_1134 (by decide) ?_
  refine lv_iadd hx hb dL_law_1135 ?_
  refine p_sld X hH hX hbl hbA hL (z := i + (1 : Int32)) (j := j + 1) (by rw [hi]; exact nI_add j 1) (by omega) dL_law_1136 ?_
  refine lv_aload_n hx hb dL_law_1137 rfl (lv_at hl 3 rfl) ?_
  obtain ⟨o, h1, hf, ⟨u7, hc7⟩, hE, hok, hex⟩ := hst
  have hout : ∃ h2, (∀ r, o = .inl r → aJs h1 z (0 : Int32) r.toInt64 = some h2 ∧ rfS G y z (fun h => f_X8_count G y (xs (j + 1)) h) h2 0 P) := by
    cases o with
    | inl r => obtain ⟨h2, q1, q2⟩ := hok r rfl; exact ⟨h2, fun r2 e2 => by cases e2; exact ⟨q1, q2⟩⟩
    | inr E => exact ⟨h1, fun r2 e2 => by cases e2⟩
  obtain ⟨h2, hout⟩ := hout
  refine p_cW (As := [.ref x, .int (xs (j + 1)), .ref z]) (rest := []) X hH (c_L_count l hfl G x (xs (j + 1)) z h o h1 hf hc7 h2 (fun r e2 => (hout r e2).1) (fun E e2 => (hE E e2).1)) mw_L_count m_769 (by decide) rfl hl.1 (Nat.le_of_ble_eq_true rfl) dL_law_1138 (c2 := cells + 10) (s2 := slots + 140) ⟨by show cells + 1 ≤ _; omega, by show cells + 10 ≤ 601024; omega, by show slots + 6 ≤ _; omega, by show slots + 140 ≤ 7293034; omega⟩ (fun r H locs ho hH => ?_) (fun E H locs sz ho hH => ?_)
  · obtain ⟨⟨u9, hc9⟩, bb, h3, hg, ⟨u9b, hc9b⟩, h4, ht, haJ, hP⟩ := (hout r ho).2
    refine lv_istore (lv' := [(5, .int (0 : Int32)), (0, .ref b), (1, .ref x), (2, .ref y), (3, .ref z), (4, .int i)]) hx hb dL_law_1141 hl (by decide) rfl (fun ls hl => ?_)
    refine lv_aload_n hx hb dL_law_1143 rfl (lv_at hl 3 rfl) ?_
    refine lv_aload_n hx hb dL_law_1144 rfl (lv_at hl 1 rfl) ?_
    refine lv_iload hx hb dL_law_1145 (lv_at hl 5 rfl) ?_
    refine lv_iconst (v := 1) hx hb dL_law_1147 (by decide) ?_
    refine lv_iadd hx hb dL_law_1148 ?_
    refine p_sld X hH hX hbl hbA hL (z := i + (1 : Int32)) (j := j + 1) (by rw [hi]; exact nI_add j 1) (by omega) dL_law_1149 ?_
    refine p_cV (As := [.int (xs (j + 1))]) (b := y) (rest := []) (ci := 9) X hH (c_X8_count l G y (xs (j + 1)) _ bb h3 hg) mv_X8_count (Or.inl m_1059) rfl hc9 (by decide) rfl hl.1 (Nat.le_of_ble_eq_true rfl) dL_law_1150 (c2 := cells + 20) (s2 := slots + 240) ⟨by show cells + 10 + 1 ≤ _; omega, by show cells + 20 ≤ 601024; omega, by show slots + 140 + 9 ≤ _; omega, by show slots + 240 ≤ 7293034; omega⟩ (fun H locs hH => ?_)
    refine lv_istore (lv' := [(6, .int bb), (5, .int (0 : Int32)), (0, .ref b), (1, .ref x), (2, .ref y), (3, .ref z), (4, .int i)]) hx hb dL_law_1153 hl (by decide) rfl (fun ls hl => ?_)
    refine lv_aload_n hx hb dL_law_1155 rfl (lv_at hl 4 rfl) ?_
    refine p_cV (As := []) (b := y) (rest := []) (ci := 9) X hH (c_X8_thrown l G y _ _ h4 ht) mv_X8_thrown (Or.inl m_899) rfl hc9b (by decide) rfl hl.1 (Nat.le_of_ble_eq_true rfl) dL_law_1156 (c2 := cells + 20) (s2 := slots + 240) ⟨by show cells + 20 + 0 ≤ _; omega, by show cells + 20 ≤ 601024; omega, by show slots + 240 + 0 ≤ _; omega, by show slots + 240 ≤ 7293034; omega⟩ (fun H locs hH => ?_)
    refine lv_iload hx hb dL_law_1159 (lv_at hl 1 rfl) ?_
    refine lv_icmp_eq (tgt := 1166) hx hb dL_law_1161 (by decide) (fun _ => ?_) (fun z0 => absurd rfl z0)
    refine lv_iload hx hb dL_law_1166 (lv_at hl 1 rfl) ?_
    refine lv_if_ne (tgt := 1183) hx hb dL_law_1168 (by decide) (fun z0 => absurd rfl z0) (fun _ => ?_)
    refine lv_aload_n hx hb dL_law_1171 rfl (lv_at hl 5 rfl) ?_
    refine lv_iconst (v := 0) hx hb dL_law_1172 (by decide) ?_
    have hf5 : rd (aJ h4 z 0) (fun w => some w) = some bb.toInt64 := by rw [haJ rfl]; rfl
    refine p_lald X hH hf5 dL_law_1173 (fun w hw hf6 => ?_)
    cases hf6
    refine lv_iload hx hb dL_law_1174 (lv_at hl 0 rfl) ?_
    refine lv_i2l (v := bb.toInt64) hx hb dL_law_1176 rfl ?_
    refine W.lcmp hx hb dL_law_1177 ?_
    refine lv_if_eq (tgt := 1183) hx hb dL_law_1178 (by decide) (fun _ => ?_) (fun z0 => absurd (lg_same _) z0)
    refine lv_goto (tgt := 1526) hx hb dL_law_1183 (by decide) ?_
    exact kk h4 H locs ls hP hH (lv_sub hl [2, 3, 4, 5, 6] rfl)
  · obtain ⟨⟨u9, hc9⟩, bb, h3, hg, ⟨u9b, hc9b⟩, h4, ht, haJ, hP⟩ := hex E ho sz (Hx.lt hH)
    have hne := (hE E ho).2
    refine lv_istore (lv' := [(5, .int (cd_L_count E)), (0, .ref b), (1, .ref x), (2, .ref y), (3, .ref z), (4, .int i)]) hx hb dL_law_1141 hl (by decide) rfl (fun ls hl => ?_)
    refine lv_aload_n hx hb dL_law_1143 rfl (lv_at hl 3 rfl) ?_
    refine lv_aload_n hx hb dL_law_1144 rfl (lv_at hl 1 rfl) ?_
    refine lv_iload hx hb dL_law_1145 (lv_at hl 5 rfl) ?_
    refine lv_iconst (v := 1) hx hb dL_law_1147 (by decide) ?_
    refine lv_iadd hx hb dL_law_1148 ?_
    refine p_sld X hH hX hbl hbA hL (z := i + (1 : Int32)) (j := j + 1) (by rw [hi]; exact nI_add j 1) (by omega) dL_law_1149 ?_
    refine p_cV (As := [.int (xs (j + 1))]) (b := y) (rest := []) (ci := 9) X hH (c_X8_count l G y (xs (j + 1)) _ bb h3 hg) mv_X8_count (Or.inl m_1059) rfl hc9 (by decide) rfl hl.1 (Nat.le_of_ble_eq_true rfl) dL_law_1150 (c2 := cells + 20) (s2 := slots + 240) ⟨by show cells + 10 + 1 ≤ _; omega, by show cells + 20 ≤ 601024; omega, by show slots + 140 + 9 ≤ _; omega, by show slots + 240 ≤ 7293034; omega⟩ (fun H locs hH => ?_)
    refine lv_istore (lv' := [(6, .int bb), (5, .int (cd_L_count E)), (0, .ref b), (1, .ref x), (2, .ref y), (3, .ref z), (4, .int i)]) hx hb dL_law_1153 hl (by decide) rfl (fun ls hl => ?_)
    refine lv_aload_n hx hb dL_law_1155 rfl (lv_at hl 4 rfl) ?_
    refine p_cV (As := []) (b := y) (rest := []) (ci := 9) X hH (c_X8_thrown l G y _ _ h4 ht) mv_X8_thrown (Or.inl m_899) rfl hc9b (by decide) rfl hl.1 (Nat.le_of_ble_eq_true rfl) dL_law_1156 (c2 := cells + 20) (s2 := slots + 240) ⟨by show cells + 20 + 0 ≤ _; omega, by show cells + 20 ≤ 601024; omega, by show slots + 240 + 0 ≤ _; omega, by show slots + 240 ≤ 7293034; omega⟩ (fun H locs hH => ?_)
    refine lv_iload hx hb dL_law_1159 (lv_at hl 1 rfl) ?_
    refine lv_icmp_eq (tgt := 1166) hx hb dL_law_1161 (by decide) (fun _ => ?_) (fun z0 => absurd rfl z0)
    refine lv_iload hx hb dL_law_1166 (lv_at hl 1 rfl) ?_
    refine lv_if_ne (tgt := 1183) hx hb dL_law_1168 (by decide) (fun _ => ?_) (fun z0 => absurd z0 hne)
    refine lv_goto (tgt := 1526) hx hb dL_law_1183 (by decide) ?_
    exact kk h4 H locs ls hP hH (lv_sub hl [2, 3, 4, 5, 6] rfl)
abbrev okE_L_party : String → Prop := fun E => E = "java/lang/IndexOutOfBoundsException"
set_option maxRecDepth 100000 in
set_option maxHeartbeats 4000000 in
theorem lc_party (X : Cx G p s m args meth c cL_law 9 "VaneHouseLaw" meth.name ret) (hX : va_X b L xs s s.heap) (hbl : b < s.heap.size) (hbA : ¬ gB G ≤ b) (hL : L ≤ 3584) (hfl : l.stackTraces = false) {x y z : Nat} {i : Int32} {j : Nat} (hi : i = nI j) (hj : j + 7 ≤ L) (P : PH → Prop) (hH : Hx G s h H locs) (hl : lv_has ls 9 [(0, .ref b), (1, .ref x), (2, .ref y), (3, .ref z), (4, .int i)]) (hst : stX G x y z (f_X6_party G x (xs (j + 1)) (xs (j + 2)) h) okE_L_party cd_L_party (fun h => f_X8_party G y (xs (j + 1)) (xs (j + 2)) h) h P) (hcl : cells + 20 ≤ 601024) (hsl : slots + 240 ≤ 7293034)
    (kk : ∀ (h' : PH) (H' : Heap) (locs' : List Loc) (ls' : Array Slot), P h' → Hx G s h' H' locs' → lv_has ls' 9 [(0, .ref b), (1, .ref x), (2, .ref y), (3, .ref z), (4, .int i)] → W p l e room_1 s m args below meth c H' locs' (cells + 20) (slots + 240) Q (F0 m 1526 ls' [])) : W p l e room_1 s m args below meth c H locs cells slots Q (F0 m 1186 ls []) := by
  have hx := X.1
  have hb := X.2.1
  refine lv_aload_n hx hb dL_law_1186 rfl (lv_at hl 1 rfl) ?_
  refine lv_aload_n hx hb dL_law_1187 rfl (lv_at hl 0 rfl) ?_
  refine lv_iload hx hb dL_law_1188 (lv_at hl 4 rfl) ?_
  refine lv_iconst (v := 1) hx hb dL_law_1190 (by decide) ?_
  refine lv_iadd hx hb dL_law_1191 ?_
  refine p_sld X hH hX hbl hbA hL (z := i + (1 : Int32)) (j := j + 1) (by rw [hi]; exact nI_add j 1) (by omega) dL_law_1192 ?_
  refine lv_aload_n hx hb dL_law_1193 rfl (lv_at hl 0 rfl) ?_
  refine lv_iload hx hb dL_law_1194 (lv_at hl 4 rfl) ?_
  refine lv_iconst (v := 2) hx hb dL_law_1196 (by decide) ?_
  refine lv_iadd hx hb dL_law_1197 ?_
  refine p_sld X hH hX hbl hbA hL (z := i + (2 : Int32)) (j := j + 2) (by rw [hi]; exact nI_add j 2) (by omega) dL_law_1198 ?_
  refine lv_aload_n hx hb dL_law_1199 rfl (lv_at hl 3 rfl) ?_
  obtain ⟨o, h1, hf, ⟨u7, hc7⟩, hE, hok, hex⟩ := hst
  have hout : ∃ h2, (∀ r, o = .inl r → aJs h1 z (0 : Int32) r.toInt64 = some h2 ∧ rfS G y z (fun h => f_X8_party G y (xs (j + 1)) (xs (j + 2)) h) h2 0 P) := by
    cases o with
    | inl r => obtain ⟨h2, q1, q2⟩ := hok r rfl; exact ⟨h2, fun r2 e2 => by cases e2; exact ⟨q1, q2⟩⟩
    | inr E => exact ⟨h1, fun r2 e2 => by cases e2⟩
  obtain ⟨h2, hout⟩ := hout
  refine p_cW (As := [.ref x, .int (xs (j + 1)), .int (xs (j + 2)), .ref z]) (rest := []) X hH (c_L_party l hfl G x (xs (j + 1)) (xs (j + 2)) z h o h1 hf hc7 h2 (fun r e2 => (hout r e2).1) (fun E e2 => (hE E e2).1)) mw_L_party m_777 (by decide) rfl hl.1 (Nat.le_of_ble_eq_true rfl) dL_law_1200 (c2 := cells + 10) (s2 := slots + 140) ⟨by show cells + 1 ≤ _; omega, by show cells + 10 ≤ 601024; omega, by show slots + 6 ≤ _; omega, by show slots + 140 ≤ 7293034; omega⟩ (fun r H locs ho hH => ?_) (fun E H locs sz ho hH => ?_)
  · obtain ⟨⟨u9, hc9⟩, bb, h3, hg, ⟨u9b, hc9b⟩, h4, ht, haJ, hP⟩ := (hout r ho).2
    refine lv_istore (lv' := [(5, .int (0 : Int32)), (0, .ref b), (1, .ref x), (2, .ref y), (3, .ref z), (4, .int i)]) hx hb dL_law_1203 hl (by decide) rfl (fun ls hl => ?_)
    refine lv_aload_n hx hb dL_law_1205 rfl (lv_at hl 3 rfl) ?_
    refine lv_aload_n hx hb dL_law_1206 rfl (lv_at hl 1 rfl) ?_
    refine lv_iload hx hb dL_law_1207 (lv_at hl 5 rfl) ?_
    refine lv_iconst (v := 1) hx hb dL_law_1209 (by decide) ?_
    refine lv_iadd hx hb dL_law_1210 ?_
    refine p_sld X hH hX hbl hbA hL (z := i + (1 : Int32)) (j := j + 1) (by rw [hi]; exact nI_add j 1) (by omega) dL_law_1211 ?_
    refine lv_aload_n hx hb dL_law_1212 rfl (lv_at hl 1 rfl) ?_
    refine lv_iload hx hb dL_law_1213 (lv_at hl 5 rfl) ?_
    refine lv_iconst (v := 2) hx hb dL_law_1215 (by decide) ?_
    refine lv_iadd hx hb dL_law_1216 ?_
    refine p_sld X hH hX hbl hbA hL (z := i + (2 : Int32)) (j := j + 2) (by rw [hi]; exact nI_add j 2) (by omega) dL_law_1217 ?_
    refine p_cV (As := [.int (xs (j + 1)), .int (xs (j + 2))]) (b := y) (rest := []) (ci := 9) X hH (c_X8_party l G y (xs (j + 1)) (xs (j + 2)) _ bb h3 hg) mv_X8_party (Or.inl m_1067) rfl hc9 (by decide) rfl hl.1 (Nat.le_of_ble_eq_true rfl) dL_law_1218 (c2 := cells + 20) (s2 := slots + 240) ⟨by show cells + 10 + 0 ≤ _; omega, by show cells + 20 ≤ 601024; omega, by show slots + 140 + 0 ≤ _; omega, by show slots + 240 ≤ 7293034; omega⟩ (fun H locs hH => ?_)
    refine lv_istore (lv' := [(6, .int bb), (5, .int (0 : Int32)), (0, .ref b), (1, .ref x), (2, .ref y), (3, .ref z), (4, .int i)]) hx hb dL_law_1221 hl (by decide) rfl (fun ls hl => ?_)
    refine lv_aload_n hx hb dL_law_1223 rfl (lv_at hl 4 rfl) ?_
    refine p_cV (As := []) (b := y) (rest := []) (ci := 9) X hH (c_X8_thrown l G y _ _ h4 ht) mv_X8_thrown (Or.inl m_899) rfl hc9b (by decide) rfl hl.1 (Nat.le_of_ble_eq_true rfl) dL_law_1224 (c2 := cells + 20) (s2 := slots + 240) ⟨by show cells + 20 + 0 ≤ _; omega, by show cells + 20 ≤ 601024; omega, by show slots + 240 + 0 ≤ _; omega, by show slots + 240 ≤ 7293034; omega⟩ (fun H locs hH => ?_)
    refine lv_iload hx hb dL_law_1227 (lv_at hl 1 rfl) ?_
    refine lv_icmp_eq (tgt := 1234) hx hb dL_law_1229 (by decide) (fun _ => ?_) (fun z0 => absurd rfl z0)
    refine lv_iload hx hb dL_law_1234 (lv_at hl 1 rfl) ?_
    refine lv_if_ne (tgt := 1251) hx hb dL_law_1236 (by decide) (fun z0 => absurd rfl z0) (fun _ => ?_)
    refine lv_aload_n hx hb dL_law_1239 rfl (lv_at hl 5 rfl) ?_
    refine lv_iconst (v := 0) hx hb dL_law_1240 (by decide) ?_
    have hf5 : rd (aJ h4 z 0) (fun w => some w) = some bb.toInt64 := by rw [haJ rfl]; rfl
    refine p_lald X hH hf5 dL_law_1241 (fun w hw hf6 => ?_)
    cases hf6
    refine lv_iload hx hb dL_law_1242 (lv_at hl 0 rfl) ?_
    refine lv_i2l (v := bb.toInt64) hx hb dL_law_1244 rfl ?_
    refine W.lcmp hx hb dL_law_1245 ?_
    refine lv_if_eq (tgt := 1251) hx hb dL_law_1246 (by decide) (fun _ => ?_) (fun z0 => absurd (lg_same _) z0)
    refine lv_goto (tgt := 1526) hx hb dL_law_1251 (by decide) ?_
    exact kk h4 H locs ls hP hH (lv_sub hl [2, 3, 4, 5, 6] rfl)
  · obtain ⟨⟨u9, hc9⟩, bb, h3, hg, ⟨u9b, hc9b⟩, h4, ht, haJ, hP⟩ := hex E ho sz (Hx.lt hH)
    have hne := (hE E ho).2
    refine lv_istore (lv' := [(5, .int (cd_L_party E)), (0, .ref b), (1, .ref x), (2, .ref y), (3, .ref z), (4, .int i)]) hx hb dL_law_1203 hl (by decide) rfl (fun ls hl => ?_)
    refine lv_aload_n hx hb dL_law_1205 rfl (lv_at hl 3 rfl) ?_
    refine lv_aload_n hx hb dL_law_1206 rfl (lv_at hl 1 rfl) ?_
    refine lv_iload hx hb dL_law_1207 (lv_at hl 5 rfl) ?_
    refine lv_iconst (v := 1) hx hb dL_law_1209 (by decide) ?_
    refine lv_iadd hx hb dL_law_1210 ?_
    refine p_sld X hH hX hbl hbA hL (z := i + (1 : Int32)) (j := j + 1) (by rw [hi]; exact nI_add j 1) (by omega) dL_law_1211 ?_
    refine lv_aload_n hx hb dL_law_1212 rfl (lv_at hl 1 rfl) ?_
    refine lv_iload hx hb dL_law_1213 (lv_at hl 5 rfl) ?_
    refine lv_iconst (v := 2) hx hb dL_law_1215 (by decide) ?_
    refine lv_iadd hx hb dL_law_1216 ?_
    refine p_sld X hH hX hbl hbA hL (z := i + (2 : Int32)) (j := j + 2) (by rw [hi]; exact nI_add j 2) (by omega) dL_law_1217 ?_
    refine p_cV (As := [.int (xs (j + 1)), .int (xs (j + 2))]) (b := y) (rest := []) (ci := 9) X hH (c_X8_party l G y (xs (j + 1)) (xs (j + 2)) _ bb h3 hg) mv_X8_party (Or.inl m_1067) rfl hc9 (by decide) rfl hl.1 (Nat.le_of_ble_eq_true rfl) dL_law_1218 (c2 := cells + 20) (s2 := slots + 240) ⟨by show cells + 10 + 0 ≤ _; omega, by show cells + 20 ≤ 601024; omega, by show slots + 140 + 0 ≤ _; omega, by show slots + 240 ≤ 7293034; omega⟩ (fun H locs hH => ?_)
    refine lv_istore (lv' := [(6, .int bb), (5, .int (cd_L_party E)), (0, .ref b), (1, .ref x), (2, .ref y), (3, .ref z), (4, .int i)]) hx hb dL_law_1221 hl (by decide) rfl (fun ls hl => ?_)
    refine lv_aload_n hx hb dL_law_1223 rfl (lv_at hl 4 rfl) ?_
    refine p_cV (As := []) (b := y) (rest := []) (ci := 9) X hH (c_X8_thrown l G y _ _ h4 ht) mv_X8_thrown (Or.inl m_899) rfl hc9b (by decide) rfl hl.1 (Nat.le_of_ble_eq_true rfl) dL_law_1224 (c2 := cells + 20) (s2 := slots + 240) ⟨by show cells + 20 + 0 ≤ _; omega, by show cells + 20 ≤ 601024; omega, by show slots + 240 + 0 ≤ _; omega, by show slots + 240 ≤ 7293034; omega⟩ (fun H locs hH => ?_)
    refine lv_iload hx hb dL_law_1227 (lv_at hl 1 rfl) ?_
    refine lv_icmp_eq (tgt := 1234) hx hb dL_law_1229 (by decide) (fun _ => ?_) (fun z0 => absurd rfl z0)
    refine lv_iload hx hb dL_law_1234 (lv_at hl 1 rfl) ?_
    refine lv_if_ne (tgt := 1251) hx hb dL_law_1236 (by decide) (fun _ => ?_) (fun z0 => absurd z0 hne)
    refine lv_goto (tgt := 1526) hx hb dL_law_1251 (by decide) ?_
    exact kk h4 H locs ls hP hH (lv_sub hl [2, 3, 4, 5, 6] rfl)
set_option maxRecDepth 100000 in
set_option maxHeartbeats 4000000 in
theorem lc_coalition (X : Cx G p s m args meth c cL_law 9 "VaneHouseLaw" meth.name ret) (hX : va_X b L xs s s.heap) (hbl : b < s.heap.size) (hbA : ¬ gB G ≤ b) (hL : L ≤ 3584) (hfl : l.stackTraces = false) {x y z : Nat} {i : Int32} (P : PH → Prop) (hH : Hx G s h H locs) (hl : lv_has ls 9 [(0, .ref b), (1, .ref x), (2, .ref y), (3, .ref z), (4, .int i)]) (hst : stY x y (f_X6_coalition G x h) (fun h => f_X8_coalition G y h) (fun r b => r = b) h P) (hcl : cells + 20 ≤ 601024) (hsl : slots + 240 ≤ 7293034)
    (kk : ∀ (h' : PH) (H' : Heap) (locs' : List Loc) (ls' : Array Slot), P h' → Hx G s h' H' locs' → lv_has ls' 9 [(0, .ref b), (1, .ref x), (2, .ref y), (3, .ref z), (4, .int i)] → W p l e room_1 s m args below meth c H' locs' (cells + 20) (slots + 240) Q (F0 m 1526 ls' [])) : W p l e room_1 s m args below meth c H locs cells slots Q (F0 m 1254 ls []) := by
  have hx := X.1
  have hb := X.2.1
  obtain ⟨⟨u7, hc7⟩, r, h1, hf, ⟨u9, hc9⟩, bb, h2, hg, heq, hP⟩ := hst
  refine lv_aload_n hx hb dL_law_1254 rfl (lv_at hl 1 rfl) ?_
  refine p_cV (As := []) (b := x) (rest := []) (ci := 7) X hH (c_X6_coalition l G x h r h1 hf) mv_X6_coalition (Or.inl m_213) rfl hc7 (by decide) rfl hl.1 (Nat.le_of_ble_eq_true rfl) dL_law_1255 (c2 := cells + 10) (s2 := slots + 140) ⟨by show cells + 0 ≤ _; omega, by show cells + 10 ≤ 601024; omega, by show slots + 0 ≤ _; omega, by show slots + 140 ≤ 7293034; omega⟩ (fun H locs hH => ?_)
  refine lv_aload_n hx hb dL_law_1258 rfl (lv_at hl 2 rfl) ?_
  refine p_cV (As := []) (b := y) (rest := [.int r]) (ci := 9) X hH (c_X8_coalition l G y h1 bb h2 hg) mv_X8_coalition (Or.inl m_1075) rfl hc9 (by decide) rfl hl.1 (Nat.le_of_ble_eq_true rfl) dL_law_1259 (c2 := cells + 20) (s2 := slots + 240) ⟨by show cells + 10 + 1 ≤ _; omega, by show cells + 20 ≤ 601024; omega, by show slots + 140 + 9 ≤ _; omega, by show slots + 240 ≤ 7293034; omega⟩ (fun H locs hH => ?_)
  refine lv_icmp_eq (tgt := 1526) hx hb dL_law_1262 (by decide) (fun _ => ?_) (fun z0 => absurd heq z0)
  exact kk h2 H locs ls hP hH (lv_sub hl [0, 1, 2, 3, 4] rfl)
abbrev okE_L_foresee : String → Prop := fun E => E = "java/lang/IndexOutOfBoundsException" ∨ E = "java/lang/IllegalArgumentException" ∨ E = "java/lang/IllegalStateException"
set_option maxRecDepth 100000 in
set_option maxHeartbeats 4000000 in
theorem lc_foresee (X : Cx G p s m args meth c cL_law 9 "VaneHouseLaw" meth.name ret) (hX : va_X b L xs s s.heap) (hbl : b < s.heap.size) (hbA : ¬ gB G ≤ b) (hL : L ≤ 3584) (hfl : l.stackTraces = false) {x y z : Nat} {i : Int32} {j : Nat} (hi : i = nI j) (hj : j + 7 ≤ L) (P : PH → Prop) (hH : Hx G s h H locs) (hl : lv_has ls 9 [(0, .ref b), (1, .ref x), (2, .ref y), (3, .ref z), (4, .int i)]) (hst : stX G x y z (f_X6_foresee G x (xs (j + 1)) (xs (j + 2)) h) okE_L_foresee cd_L_foresee (fun h => f_X8_foresee G y (xs (j + 1)) (xs (j + 2)) h) h P) (hcl : cells + 20 ≤ 601024) (hsl : slots + 240 ≤ 7293034)
    (kk : ∀ (h' : PH) (H' : Heap) (locs' : List Loc) (ls' : Array Slot), P h' → Hx G s h' H' locs' → lv_has ls' 9 [(0, .ref b), (1, .ref x), (2, .ref y), (3, .ref z), (4, .int i)] → W p l e room_1 s m args below meth c H' locs' (cells + 20) (slots + 240) Q (F0 m 1526 ls' [])) : W p l e room_1 s m args below meth c H locs cells slots Q (F0 m 1267 ls []) := by
  have hx := X.1
  have hb := X.2.1
  refine lv_aload_n hx hb dL_law_1267 rfl (lv_at hl 1 rfl) ?_
  refine lv_aload_n hx hb dL_law_1268 rfl (lv_at hl 0 rfl) ?_
  refine lv_iload hx hb dL_law_1269 (lv_at hl 4 rfl) ?_
  refine lv_iconst (v := 1) hx hb dL_law_1271 (by decide) ?_
  refine lv_iadd hx hb dL_law_1272 ?_
  refine p_sld X hH hX hbl hbA hL (z := i + (1 : Int32)) (j := j + 1) (by rw [hi]; exact nI_add j 1) (by omega) dL_law_1273 ?_
  refine lv_aload_n hx hb dL_law_1274 rfl (lv_at hl 0 rfl) ?_
  refine lv_iload hx hb dL_law_1275 (lv_at hl 4 rfl) ?_
  refine lv_iconst (v := 2) hx hb dL_law_1277 (by decide) ?_
  refine lv_iadd hx hb dL_law_1278 ?_
  refine p_sld X hH hX hbl hbA hL (z := i + (2 : Int32)) (j := j + 2) (by rw [hi]; exact nI_add j 2) (by omega) dL_law_1279 ?_
  refine lv_aload_n hx hb dL_law_1280 rfl (lv_at hl 3 rfl) ?_
  obtain ⟨o, h1, hf, ⟨u7, hc7⟩, hE, hok, hex⟩ := hst
  have hout : ∃ h2, (∀ r, o = .inl r → aJs h1 z (0 : Int32) r.toInt64 = some h2 ∧ rfS G y z (fun h => f_X8_foresee G y (xs (j + 1)) (xs (j + 2)) h) h2 0 P) := by
    cases o with
    | inl r => obtain ⟨h2, q1, q2⟩ := hok r rfl; exact ⟨h2, fun r2 e2 => by cases e2; exact ⟨q1, q2⟩⟩
    | inr E => exact ⟨h1, fun r2 e2 => by cases e2⟩
  obtain ⟨h2, hout⟩ := hout
  refine p_cW (As := [.ref x, .int (xs (j + 1)), .int (xs (j + 2)), .ref z]) (rest := []) X hH (c_L_foresee l hfl G x (xs (j + 1)) (xs (j + 2)) z h o h1 hf hc7 h2 (fun r e2 => (hout r e2).1) (fun E e2 => (hE E e2).1)) mw_L_foresee m_790 (by decide) rfl hl.1 (Nat.le_of_ble_eq_true rfl) dL_law_1281 (c2 := cells + 10) (s2 := slots + 140) ⟨by show cells + 1 ≤ _; omega, by show cells + 10 ≤ 601024; omega, by show slots + 6 ≤ _; omega, by show slots + 140 ≤ 7293034; omega⟩ (fun r H locs ho hH => ?_) (fun E H locs sz ho hH => ?_)
  · obtain ⟨⟨u9, hc9⟩, bb, h3, hg, ⟨u9b, hc9b⟩, h4, ht, haJ, hP⟩ := (hout r ho).2
    refine lv_istore (lv' := [(5, .int (0 : Int32)), (0, .ref b), (1, .ref x), (2, .ref y), (3, .ref z), (4, .int i)]) hx hb dL_law_1284 hl (by decide) rfl (fun ls hl => ?_)
    refine lv_aload_n hx hb dL_law_1286 rfl (lv_at hl 3 rfl) ?_
    refine lv_aload_n hx hb dL_law_1287 rfl (lv_at hl 1 rfl) ?_
    refine lv_iload hx hb dL_law_1288 (lv_at hl 5 rfl) ?_
    refine lv_iconst (v := 1) hx hb dL_law_1290 (by decide) ?_
    refine lv_iadd hx hb dL_law_1291 ?_
    refine p_sld X hH hX hbl hbA hL (z := i + (1 : Int32)) (j := j + 1) (by rw [hi]; exact nI_add j 1) (by omega) dL_law_1292 ?_
    refine lv_aload_n hx hb dL_law_1293 rfl (lv_at hl 1 rfl) ?_
    refine lv_iload hx hb dL_law_1294 (lv_at hl 5 rfl) ?_
    refine lv_iconst (v := 2) hx hb dL_law_1296 (by decide) ?_
    refine lv_iadd hx hb dL_law_1297 ?_
    refine p_sld X hH hX hbl hbA hL (z := i + (2 : Int32)) (j := j + 2) (by rw [hi]; exact nI_add j 2) (by omega) dL_law_1298 ?_
    refine p_cV (As := [.int (xs (j + 1)), .int (xs (j + 2))]) (b := y) (rest := []) (ci := 9) X hH (c_X8_foresee l G y (xs (j + 1)) (xs (j + 2)) _ bb h3 hg) mv_X8_foresee (Or.inl m_1080) rfl hc9 (by decide) rfl hl.1 (Nat.le_of_ble_eq_true rfl) dL_law_1299 (c2 := cells + 20) (s2 := slots + 240) ⟨by show cells + 10 + 0 ≤ _; omega, by show cells + 20 ≤ 601024; omega, by show slots + 140 + 0 ≤ _; omega, by show slots + 240 ≤ 7293034; omega⟩ (fun H locs hH => ?_)
    refine lv_istore (lv' := [(6, .int bb), (5, .int (0 : Int32)), (0, .ref b), (1, .ref x), (2, .ref y), (3, .ref z), (4, .int i)]) hx hb dL_law_1302 hl (by decide) rfl (fun ls hl => ?_)
    refine lv_aload_n hx hb dL_law_1304 rfl (lv_at hl 4 rfl) ?_
    refine p_cV (As := []) (b := y) (rest := []) (ci := 9) X hH (c_X8_thrown l G y _ _ h4 ht) mv_X8_thrown (Or.inl m_899) rfl hc9b (by decide) rfl hl.1 (Nat.le_of_ble_eq_true rfl) dL_law_1305 (c2 := cells + 20) (s2 := slots + 240) ⟨by show cells + 20 + 0 ≤ _; omega, by show cells + 20 ≤ 601024; omega, by show slots + 240 + 0 ≤ _; omega, by show slots + 240 ≤ 7293034; omega⟩ (fun H locs hH => ?_)
    refine lv_iload hx hb dL_law_1308 (lv_at hl 1 rfl) ?_
    refine lv_icmp_eq (tgt := 1315) hx hb dL_law_1310 (by decide) (fun _ => ?_) (fun z0 => absurd rfl z0)
    refine lv_iload hx hb dL_law_1315 (lv_at hl 1 rfl) ?_
    refine lv_if_ne (tgt := 1332) hx hb dL_law_1317 (by decide) (fun z0 => absurd rfl z0) (fun _ => ?_)
    refine lv_aload_n hx hb dL_law_1320 rfl (lv_at hl 5 rfl) ?_
    refine lv_iconst (v := 0) hx hb dL_law_1321 (by decide) ?_
    have hf5 : rd (aJ h4 z 0) (fun w => some w) = some bb.toInt64 := by rw [haJ rfl]; rfl
    refine p_lald X hH hf5 dL_law_1322 (fun w hw hf6 => ?_)
    cases hf6
    refine lv_iload hx hb dL_law_1323 (lv_at hl 0 rfl) ?_
    refine lv_i2l (v := bb.toInt64) hx hb dL_law_1325 rfl ?_
    refine W.lcmp hx hb dL_law_1326 ?_
    refine lv_if_eq (tgt := 1332) hx hb dL_law_1327 (by decide) (fun _ => ?_) (fun z0 => absurd (lg_same _) z0)
    refine lv_goto (tgt := 1526) hx hb dL_law_1332 (by decide) ?_
    exact kk h4 H locs ls hP hH (lv_sub hl [2, 3, 4, 5, 6] rfl)
  · obtain ⟨⟨u9, hc9⟩, bb, h3, hg, ⟨u9b, hc9b⟩, h4, ht, haJ, hP⟩ := hex E ho sz (Hx.lt hH)
    have hne := (hE E ho).2
    refine lv_istore (lv' := [(5, .int (cd_L_foresee E)), (0, .ref b), (1, .ref x), (2, .ref y), (3, .ref z), (4, .int i)]) hx hb dL_law_1284 hl (by decide) rfl (fun ls hl => ?_)
    refine lv_aload_n hx hb dL_law_1286 rfl (lv_at hl 3 rfl) ?_
    refine lv_aload_n hx hb dL_law_1287 rfl (lv_at hl 1 rfl) ?_
    refine lv_iload hx hb dL_law_1288 (lv_at hl 5 rfl) ?_
    refine lv_iconst (v := 1) hx hb dL_law_1290 (by decide) ?_
    refine lv_iadd hx hb dL_law_1291 ?_
    refine p_sld X hH hX hbl hbA hL (z := i + (1 : Int32)) (j := j + 1) (by rw [hi]; exact nI_add j 1) (by omega) dL_law_1292 ?_
    refine lv_aload_n hx hb dL_law_1293 rfl (lv_at hl 1 rfl) ?_
    refine lv_iload hx hb dL_law_1294 (lv_at hl 5 rfl) ?_
    refine lv_iconst (v := 2) hx hb dL_law_1296 (by decide) ?_
    refine lv_iadd hx hb dL_law_1297 ?_
    refine p_sld X hH hX hbl hbA hL (z := i + (2 : Int32)) (j := j + 2) (by rw [hi]; exact nI_add j 2) (by omega) dL_law_1298 ?_
    refine p_cV (As := [.int (xs (j + 1)), .int (xs (j + 2))]) (b := y) (rest := []) (ci := 9) X hH (c_X8_foresee l G y (xs (j + 1)) (xs (j + 2)) _ bb h3 hg) mv_X8_foresee (Or.inl m_1080) rfl hc9 (by decide) rfl hl.1 (Nat.le_of_ble_eq_true rfl) dL_law_1299 (c2 := cells + 20) (s2 := slots + 240) ⟨by show cells + 10 + 0 ≤ _; omega, by show cells + 20 ≤ 601024; omega, by show slots + 140 + 0 ≤ _; omega, by show slots + 240 ≤ 7293034; omega⟩ (fun H locs hH => ?_)
    refine lv_istore (lv' := [(6, .int bb), (5, .int (cd_L_foresee E)), (0, .ref b), (1, .ref x), (2, .ref y), (3, .ref z), (4, .int i)]) hx hb dL_law_1302 hl (by decide) rfl (fun ls hl => ?_)
    refine lv_aload_n hx hb dL_law_1304 rfl (lv_at hl 4 rfl) ?_
    refine p_cV (As := []) (b := y) (rest := []) (ci := 9) X hH (c_X8_thrown l G y _ _ h4 ht) mv_X8_thrown (Or.inl m_899) rfl hc9b (by decide) rfl hl.1 (Nat.le_of_ble_eq_true rfl) dL_law_1305 (c2 := cells + 20) (s2 := slots + 240) ⟨by show cells + 20 + 0 ≤ _; omega, by show cells + 20 ≤ 601024; omega, by show slots + 240 + 0 ≤ _; omega, by show slots + 240 ≤ 7293034; omega⟩ (fun H locs hH => ?_)
    refine lv_iload hx hb dL_law_1308 (lv_at hl 1 rfl) ?_
    refine lv_icmp_eq (tgt := 1315) hx hb dL_law_1310 (by decide) (fun _ => ?_) (fun z0 => absurd rfl z0)
    refine lv_iload hx hb dL_law_1315 (lv_at hl 1 rfl) ?_
    refine lv_if_ne (tgt := 1332) hx hb dL_law_1317 (by decide) (fun _ => ?_) (fun z0 => absurd z0 hne)
    refine lv_goto (tgt := 1526) hx hb dL_law_1332 (by decide) ?_
    exact kk h4 H locs ls hP hH (lv_sub hl [2, 3, 4, 5, 6] rfl)
abbrev okE_L_passes : String → Prop := fun E => E = "java/lang/IndexOutOfBoundsException" ∨ E = "java/lang/IllegalArgumentException" ∨ E = "java/lang/IllegalStateException"
set_option maxRecDepth 100000 in
set_option maxHeartbeats 4000000 in
theorem lc_passes (X : Cx G p s m args meth c cL_law 9 "VaneHouseLaw" meth.name ret) (hX : va_X b L xs s s.heap) (hbl : b < s.heap.size) (hbA : ¬ gB G ≤ b) (hL : L ≤ 3584) (hfl : l.stackTraces = false) {x y z : Nat} {i : Int32} {j : Nat} (hi : i = nI j) (hj : j + 7 ≤ L) (P : PH → Prop) (hH : Hx G s h H locs) (hl : lv_has ls 9 [(0, .ref b), (1, .ref x), (2, .ref y), (3, .ref z), (4, .int i)]) (hst : stX G x y z (f_X6_passes G x (xs (j + 1)) (xs (j + 2)) h) okE_L_passes cd_L_passes (fun h => f_X8_passes G y (xs (j + 1)) (xs (j + 2)) h) h P) (hcl : cells + 20 ≤ 601024) (hsl : slots + 240 ≤ 7293034)
    (kk : ∀ (h' : PH) (H' : Heap) (locs' : List Loc) (ls' : Array Slot), P h' → Hx G s h' H' locs' → lv_has ls' 9 [(0, .ref b), (1, .ref x), (2, .ref y), (3, .ref z), (4, .int i)] → W p l e room_1 s m args below meth c H' locs' (cells + 20) (slots + 240) Q (F0 m 1526 ls' [])) : W p l e room_1 s m args below meth c H locs cells slots Q (F0 m 1335 ls []) := by
  have hx := X.1
  have hb := X.2.1
  refine lv_aload_n hx hb dL_law_1335 rfl (lv_at hl 1 rfl) ?_
  refine lv_aload_n hx hb dL_law_1336 rfl (lv_at hl 0 rfl) ?_
  refine lv_iload hx hb dL_law_1337 (lv_at hl 4 rfl) ?_
  refine lv_iconst (v := 1) hx hb dL_law_1339 (by decide) ?_
  refine lv_iadd hx hb dL_law_1340 ?_
  refine p_sld X hH hX hbl hbA hL (z := i + (1 : Int32)) (j := j + 1) (by rw [hi]; exact nI_add j 1) (by omega) dL_law_1341 ?_
  refine lv_aload_n hx hb dL_law_1342 rfl (lv_at hl 0 rfl) ?_
  refine lv_iload hx hb dL_law_1343 (lv_at hl 4 rfl) ?_
  refine lv_iconst (v := 2) hx hb dL_law_1345 (by decide) ?_
  refine lv_iadd hx hb dL_law_1346 ?_
  refine p_sld X hH hX hbl hbA hL (z := i + (2 : Int32)) (j := j + 2) (by rw [hi]; exact nI_add j 2) (by omega) dL_law_1347 ?_
  refine lv_aload_n hx hb dL_law_1348 rfl (lv_at hl 3 rfl) ?_
  obtain ⟨o, h1, hf, ⟨u7, hc7⟩, hE, hok, hex⟩ := hst
  have hout : ∃ h2, (∀ r, o = .inl r → aJs h1 z (0 : Int32) r.toInt64 = some h2 ∧ rfS G y z (fun h => f_X8_passes G y (xs (j + 1)) (xs (j + 2)) h) h2 0 P) := by
    cases o with
    | inl r => obtain ⟨h2, q1, q2⟩ := hok r rfl; exact ⟨h2, fun r2 e2 => by cases e2; exact ⟨q1, q2⟩⟩
    | inr E => exact ⟨h1, fun r2 e2 => by cases e2⟩
  obtain ⟨h2, hout⟩ := hout
  refine p_cW (As := [.ref x, .int (xs (j + 1)), .int (xs (j + 2)), .ref z]) (rest := []) X hH (c_L_passes l hfl G x (xs (j + 1)) (xs (j + 2)) z h o h1 hf hc7 h2 (fun r e2 => (hout r e2).1) (fun E e2 => (hE E e2).1)) mw_L_passes m_809 (by decide) rfl hl.1 (Nat.le_of_ble_eq_true rfl) dL_law_1349 (c2 := cells + 10) (s2 := slots + 140) ⟨by show cells + 1 ≤ _; omega, by show cells + 10 ≤ 601024; omega, by show slots + 6 ≤ _; omega, by show slots + 140 ≤ 7293034; omega⟩ (fun r H locs ho hH => ?_) (fun E H locs sz ho hH => ?_)
  · obtain ⟨⟨u9, hc9⟩, bb, h3, hg, ⟨u9b, hc9b⟩, h4, ht, haJ, hP⟩ := (hout r ho).2
    refine lv_istore (lv' := [(5, .int (0 : Int32)), (0, .ref b), (1, .ref x), (2, .ref y), (3, .ref z), (4, .int i)]) hx hb dL_law_1352 hl (by decide) rfl (fun ls hl => ?_)
    refine lv_aload_n hx hb dL_law_1354 rfl (lv_at hl 3 rfl) ?_
    refine lv_aload_n hx hb dL_law_1355 rfl (lv_at hl 1 rfl) ?_
    refine lv_iload hx hb dL_law_1356 (lv_at hl 5 rfl) ?_
    refine lv_iconst (v := 1) hx hb dL_law_1358 (by decide) ?_
    refine lv_iadd hx hb dL_law_1359 ?_
    refine p_sld X hH hX hbl hbA hL (z := i + (1 : Int32)) (j := j + 1) (by rw [hi]; exact nI_add j 1) (by omega) dL_law_1360 ?_
    refine lv_aload_n hx hb dL_law_1361 rfl (lv_at hl 1 rfl) ?_
    refine lv_iload hx hb dL_law_1362 (lv_at hl 5 rfl) ?_
    refine lv_iconst (v := 2) hx hb dL_law_1364 (by decide) ?_
    refine lv_iadd hx hb dL_law_1365 ?_
    refine p_sld X hH hX hbl hbA hL (z := i + (2 : Int32)) (j := j + 2) (by rw [hi]; exact nI_add j 2) (by omega) dL_law_1366 ?_
    refine p_cV (As := [.int (xs (j + 1)), .int (xs (j + 2))]) (b := y) (rest := []) (ci := 9) X hH (c_X8_passes l G y (xs (j + 1)) (xs (j + 2)) _ bb h3 hg) mv_X8_passes (Or.inl m_1089) rfl hc9 (by decide) rfl hl.1 (Nat.le_of_ble_eq_true rfl) dL_law_1367 (c2 := cells + 20) (s2 := slots + 240) ⟨by show cells + 10 + 0 ≤ _; omega, by show cells + 20 ≤ 601024; omega, by show slots + 140 + 0 ≤ _; omega, by show slots + 240 ≤ 7293034; omega⟩ (fun H locs hH => ?_)
    refine lv_istore (lv' := [(6, .int bb), (5, .int (0 : Int32)), (0, .ref b), (1, .ref x), (2, .ref y), (3, .ref z), (4, .int i)]) hx hb dL_law_1370 hl (by decide) rfl (fun ls hl => ?_)
    refine lv_aload_n hx hb dL_law_1372 rfl (lv_at hl 4 rfl) ?_
    refine p_cV (As := []) (b := y) (rest := []) (ci := 9) X hH (c_X8_thrown l G y _ _ h4 ht) mv_X8_thrown (Or.inl m_899) rfl hc9b (by decide) rfl hl.1 (Nat.le_of_ble_eq_true rfl) dL_law_1373 (c2 := cells + 20) (s2 := slots + 240) ⟨by show cells + 20 + 0 ≤ _; omega, by show cells + 20 ≤ 601024; omega, by show slots + 240 + 0 ≤ _; omega, by show slots + 240 ≤ 7293034; omega⟩ (fun H locs hH => ?_)
    refine lv_iload hx hb dL_law_1376 (lv_at hl 1 rfl) ?_
    refine lv_icmp_eq (tgt := 1383) hx hb dL_law_1378 (by decide) (fun _ => ?_) (fun z0 => absurd rfl z0)
    refine lv_iload hx hb dL_law_1383 (lv_at hl 1 rfl) ?_
    refine lv_if_ne (tgt := 1400) hx hb dL_law_1385 (by decide) (fun z0 => absurd rfl z0) (fun _ => ?_)
    refine lv_aload_n hx hb dL_law_1388 rfl (lv_at hl 5 rfl) ?_
    refine lv_iconst (v := 0) hx hb dL_law_1389 (by decide) ?_
    have hf5 : rd (aJ h4 z 0) (fun w => some w) = some bb.toInt64 := by rw [haJ rfl]; rfl
    refine p_lald X hH hf5 dL_law_1390 (fun w hw hf6 => ?_)
    cases hf6
    refine lv_iload hx hb dL_law_1391 (lv_at hl 0 rfl) ?_
    refine lv_i2l (v := bb.toInt64) hx hb dL_law_1393 rfl ?_
    refine W.lcmp hx hb dL_law_1394 ?_
    refine lv_if_eq (tgt := 1400) hx hb dL_law_1395 (by decide) (fun _ => ?_) (fun z0 => absurd (lg_same _) z0)
    refine lv_goto (tgt := 1526) hx hb dL_law_1400 (by decide) ?_
    exact kk h4 H locs ls hP hH (lv_sub hl [2, 3, 4, 5, 6] rfl)
  · obtain ⟨⟨u9, hc9⟩, bb, h3, hg, ⟨u9b, hc9b⟩, h4, ht, haJ, hP⟩ := hex E ho sz (Hx.lt hH)
    have hne := (hE E ho).2
    refine lv_istore (lv' := [(5, .int (cd_L_passes E)), (0, .ref b), (1, .ref x), (2, .ref y), (3, .ref z), (4, .int i)]) hx hb dL_law_1352 hl (by decide) rfl (fun ls hl => ?_)
    refine lv_aload_n hx hb dL_law_1354 rfl (lv_at hl 3 rfl) ?_
    refine lv_aload_n hx hb dL_law_1355 rfl (lv_at hl 1 rfl) ?_
    refine lv_iload hx hb dL_law_1356 (lv_at hl 5 rfl) ?_
    refine lv_iconst (v := 1) hx hb dL_law_1358 (by decide) ?_
    refine lv_iadd hx hb dL_law_1359 ?_
    refine p_sld X hH hX hbl hbA hL (z := i + (1 : Int32)) (j := j + 1) (by rw [hi]; exact nI_add j 1) (by omega) dL_law_1360 ?_
    refine lv_aload_n hx hb dL_law_1361 rfl (lv_at hl 1 rfl) ?_
    refine lv_iload hx hb dL_law_1362 (lv_at hl 5 rfl) ?_
    refine lv_iconst (v := 2) hx hb dL_law_1364 (by decide) ?_
    refine lv_iadd hx hb dL_law_1365 ?_
    refine p_sld X hH hX hbl hbA hL (z := i + (2 : Int32)) (j := j + 2) (by rw [hi]; exact nI_add j 2) (by omega) dL_law_1366 ?_
    refine p_cV (As := [.int (xs (j + 1)), .int (xs (j + 2))]) (b := y) (rest := []) (ci := 9) X hH (c_X8_passes l G y (xs (j + 1)) (xs (j + 2)) _ bb h3 hg) mv_X8_passes (Or.inl m_1089) rfl hc9 (by decide) rfl hl.1 (Nat.le_of_ble_eq_true rfl) dL_law_1367 (c2 := cells + 20) (s2 := slots + 240) ⟨by show cells + 10 + 0 ≤ _; omega, by show cells + 20 ≤ 601024; omega, by show slots + 140 + 0 ≤ _; omega, by show slots + 240 ≤ 7293034; omega⟩ (fun H locs hH => ?_)
    refine lv_istore (lv' := [(6, .int bb), (5, .int (cd_L_passes E)), (0, .ref b), (1, .ref x), (2, .ref y), (3, .ref z), (4, .int i)]) hx hb dL_law_1370 hl (by decide) rfl (fun ls hl => ?_)
    refine lv_aload_n hx hb dL_law_1372 rfl (lv_at hl 4 rfl) ?_
    refine p_cV (As := []) (b := y) (rest := []) (ci := 9) X hH (c_X8_thrown l G y _ _ h4 ht) mv_X8_thrown (Or.inl m_899) rfl hc9b (by decide) rfl hl.1 (Nat.le_of_ble_eq_true rfl) dL_law_1373 (c2 := cells + 20) (s2 := slots + 240) ⟨by show cells + 20 + 0 ≤ _; omega, by show cells + 20 ≤ 601024; omega, by show slots + 240 + 0 ≤ _; omega, by show slots + 240 ≤ 7293034; omega⟩ (fun H locs hH => ?_)
    refine lv_iload hx hb dL_law_1376 (lv_at hl 1 rfl) ?_
    refine lv_icmp_eq (tgt := 1383) hx hb dL_law_1378 (by decide) (fun _ => ?_) (fun z0 => absurd rfl z0)
    refine lv_iload hx hb dL_law_1383 (lv_at hl 1 rfl) ?_
    refine lv_if_ne (tgt := 1400) hx hb dL_law_1385 (by decide) (fun _ => ?_) (fun z0 => absurd z0 hne)
    refine lv_goto (tgt := 1526) hx hb dL_law_1400 (by decide) ?_
    exact kk h4 H locs ls hP hH (lv_sub hl [2, 3, 4, 5, 6] rfl)
abbrev okE_L_advise : String → Prop := fun E => E = "java/lang/IndexOutOfBoundsException" ∨ E = "java/lang/IllegalArgumentException" ∨ E = "java/lang/IllegalStateException"
set_option maxRecDepth 100000 in
set_option maxHeartbeats 4000000 in
theorem lc_advise (X : Cx G p s m args meth c cL_law 9 "VaneHouseLaw" meth.name ret) (hX : va_X b L xs s s.heap) (hbl : b < s.heap.size) (hbA : ¬ gB G ≤ b) (hL : L ≤ 3584) (hfl : l.stackTraces = false) {x y z : Nat} {i : Int32} {j : Nat} (hi : i = nI j) (hj : j + 7 ≤ L) (P : PH → Prop) (hH : Hx G s h H locs) (hl : lv_has ls 9 [(0, .ref b), (1, .ref x), (2, .ref y), (3, .ref z), (4, .int i)]) (hst : stX G x y z (f_X6_advise G x (xs (j + 1)) (xs (j + 2)) h) okE_L_advise cd_L_advise (fun h => f_X8_advise G y (xs (j + 1)) (xs (j + 2)) h) h P) (hcl : cells + 20 ≤ 601024) (hsl : slots + 240 ≤ 7293034)
    (kk : ∀ (h' : PH) (H' : Heap) (locs' : List Loc) (ls' : Array Slot), P h' → Hx G s h' H' locs' → lv_has ls' 9 [(0, .ref b), (1, .ref x), (2, .ref y), (3, .ref z), (4, .int i)] → W p l e room_1 s m args below meth c H' locs' (cells + 20) (slots + 240) Q (F0 m 1526 ls' [])) : W p l e room_1 s m args below meth c H locs cells slots Q (F0 m 1403 ls []) := by
  have hx := X.1
  have hb := X.2.1
  refine lv_aload_n hx hb dL_law_1403 rfl (lv_at hl 1 rfl) ?_
  refine lv_aload_n hx hb dL_law_1404 rfl (lv_at hl 0 rfl) ?_
  refine lv_iload hx hb dL_law_1405 (lv_at hl 4 rfl) ?_
  refine lv_iconst (v := 1) hx hb dL_law_1407 (by decide) ?_
  refine lv_iadd hx hb dL_law_1408 ?_
  refine p_sld X hH hX hbl hbA hL (z := i + (1 : Int32)) (j := j + 1) (by rw [hi]; exact nI_add j 1) (by omega) dL_law_1409 ?_
  refine lv_aload_n hx hb dL_law_1410 rfl (lv_at hl 0 rfl) ?_
  refine lv_iload hx hb dL_law_1411 (lv_at hl 4 rfl) ?_
  refine lv_iconst (v := 2) hx hb dL_law_1413 (by decide) ?_
  refine lv_iadd hx hb dL_law_1414 ?_
  refine p_sld X hH hX hbl hbA hL (z := i + (2 : Int32)) (j := j + 2) (by rw [hi]; exact nI_add j 2) (by omega) dL_law_1415 ?_
  refine lv_aload_n hx hb dL_law_1416 rfl (lv_at hl 3 rfl) ?_
  obtain ⟨o, h1, hf, ⟨u7, hc7⟩, hE, hok, hex⟩ := hst
  have hout : ∃ h2, (∀ r, o = .inl r → aJs h1 z (0 : Int32) r.toInt64 = some h2 ∧ rfS G y z (fun h => f_X8_advise G y (xs (j + 1)) (xs (j + 2)) h) h2 0 P) := by
    cases o with
    | inl r => obtain ⟨h2, q1, q2⟩ := hok r rfl; exact ⟨h2, fun r2 e2 => by cases e2; exact ⟨q1, q2⟩⟩
    | inr E => exact ⟨h1, fun r2 e2 => by cases e2⟩
  obtain ⟨h2, hout⟩ := hout
  refine p_cW (As := [.ref x, .int (xs (j + 1)), .int (xs (j + 2)), .ref z]) (rest := []) X hH (c_L_advise l hfl G x (xs (j + 1)) (xs (j + 2)) z h o h1 hf hc7 h2 (fun r e2 => (hout r e2).1) (fun E e2 => (hE E e2).1)) mw_L_advise m_820 (by decide) rfl hl.1 (Nat.le_of_ble_eq_true rfl) dL_law_1417 (c2 := cells + 10) (s2 := slots + 140) ⟨by show cells + 1 ≤ _; omega, by show cells + 10 ≤ 601024; omega, by show slots + 6 ≤ _; omega, by show slots + 140 ≤ 7293034; omega⟩ (fun r H locs ho hH => ?_) (fun E H locs sz ho hH => ?_)
  · obtain ⟨⟨u9, hc9⟩, bb, h3, hg, ⟨u9b, hc9b⟩, h4, ht, haJ, hP⟩ := (hout r ho).2
    refine lv_istore (lv' := [(5, .int (0 : Int32)), (0, .ref b), (1, .ref x), (2, .ref y), (3, .ref z), (4, .int i)]) hx hb dL_law_1420 hl (by decide) rfl (fun ls hl => ?_)
    refine lv_aload_n hx hb dL_law_1422 rfl (lv_at hl 3 rfl) ?_
    refine lv_aload_n hx hb dL_law_1423 rfl (lv_at hl 1 rfl) ?_
    refine lv_iload hx hb dL_law_1424 (lv_at hl 5 rfl) ?_
    refine lv_iconst (v := 1) hx hb dL_law_1426 (by decide) ?_
    refine lv_iadd hx hb dL_law_1427 ?_
    refine p_sld X hH hX hbl hbA hL (z := i + (1 : Int32)) (j := j + 1) (by rw [hi]; exact nI_add j 1) (by omega) dL_law_1428 ?_
    refine lv_aload_n hx hb dL_law_1429 rfl (lv_at hl 1 rfl) ?_
    refine lv_iload hx hb dL_law_1430 (lv_at hl 5 rfl) ?_
    refine lv_iconst (v := 2) hx hb dL_law_1432 (by decide) ?_
    refine lv_iadd hx hb dL_law_1433 ?_
    refine p_sld X hH hX hbl hbA hL (z := i + (2 : Int32)) (j := j + 2) (by rw [hi]; exact nI_add j 2) (by omega) dL_law_1434 ?_
    refine p_cV (As := [.int (xs (j + 1)), .int (xs (j + 2))]) (b := y) (rest := []) (ci := 9) X hH (c_X8_advise l G y (xs (j + 1)) (xs (j + 2)) _ bb h3 hg) mv_X8_advise (Or.inl m_1099) rfl hc9 (by decide) rfl hl.1 (Nat.le_of_ble_eq_true rfl) dL_law_1435 (c2 := cells + 20) (s2 := slots + 240) ⟨by show cells + 10 + 0 ≤ _; omega, by show cells + 20 ≤ 601024; omega, by show slots + 140 + 0 ≤ _; omega, by show slots + 240 ≤ 7293034; omega⟩ (fun H locs hH => ?_)
    refine lv_istore (lv' := [(6, .int bb), (5, .int (0 : Int32)), (0, .ref b), (1, .ref x), (2, .ref y), (3, .ref z), (4, .int i)]) hx hb dL_law_1438 hl (by decide) rfl (fun ls hl => ?_)
    refine lv_aload_n hx hb dL_law_1440 rfl (lv_at hl 4 rfl) ?_
    refine p_cV (As := []) (b := y) (rest := []) (ci := 9) X hH (c_X8_thrown l G y _ _ h4 ht) mv_X8_thrown (Or.inl m_899) rfl hc9b (by decide) rfl hl.1 (Nat.le_of_ble_eq_true rfl) dL_law_1441 (c2 := cells + 20) (s2 := slots + 240) ⟨by show cells + 20 + 0 ≤ _; omega, by show cells + 20 ≤ 601024; omega, by show slots + 240 + 0 ≤ _; omega, by show slots + 240 ≤ 7293034; omega⟩ (fun H locs hH => ?_)
    refine lv_iload hx hb dL_law_1444 (lv_at hl 1 rfl) ?_
    refine lv_icmp_eq (tgt := 1451) hx hb dL_law_1446 (by decide) (fun _ => ?_) (fun z0 => absurd rfl z0)
    refine lv_iload hx hb dL_law_1451 (lv_at hl 1 rfl) ?_
    refine lv_if_ne (tgt := 1468) hx hb dL_law_1453 (by decide) (fun z0 => absurd rfl z0) (fun _ => ?_)
    refine lv_aload_n hx hb dL_law_1456 rfl (lv_at hl 5 rfl) ?_
    refine lv_iconst (v := 0) hx hb dL_law_1457 (by decide) ?_
    have hf5 : rd (aJ h4 z 0) (fun w => some w) = some bb.toInt64 := by rw [haJ rfl]; rfl
    refine p_lald X hH hf5 dL_law_1458 (fun w hw hf6 => ?_)
    cases hf6
    refine lv_iload hx hb dL_law_1459 (lv_at hl 0 rfl) ?_
    refine lv_i2l (v := bb.toInt64) hx hb dL_law_1461 rfl ?_
    refine W.lcmp hx hb dL_law_1462 ?_
    refine lv_if_eq (tgt := 1468) hx hb dL_law_1463 (by decide) (fun _ => ?_) (fun z0 => absurd (lg_same _) z0)
    refine lv_goto (tgt := 1526) hx hb dL_law_1468 (by decide) ?_
    exact kk h4 H locs ls hP hH (lv_sub hl [2, 3, 4, 5, 6] rfl)
  · obtain ⟨⟨u9, hc9⟩, bb, h3, hg, ⟨u9b, hc9b⟩, h4, ht, haJ, hP⟩ := hex E ho sz (Hx.lt hH)
    have hne := (hE E ho).2
    refine lv_istore (lv' := [(5, .int (cd_L_advise E)), (0, .ref b), (1, .ref x), (2, .ref y), (3, .ref z), (4, .int i)]) hx hb dL_law_1420 hl (by decide) rfl (fun ls hl => ?_)
    refine lv_aload_n hx hb dL_law_1422 rfl (lv_at hl 3 rfl) ?_
    refine lv_aload_n hx hb dL_law_1423 rfl (lv_at hl 1 rfl) ?_
    refine lv_iload hx hb dL_law_1424 (lv_at hl 5 rfl) ?_
    refine lv_iconst (v := 1) hx hb dL_law_1426 (by decide) ?_
    refine lv_iadd hx hb dL_law_1427 ?_
    refine p_sld X hH hX hbl hbA hL (z := i + (1 : Int32)) (j := j + 1) (by rw [hi]; exact nI_add j 1) (by omega) dL_law_1428 ?_
    refine lv_aload_n hx hb dL_law_1429 rfl (lv_at hl 1 rfl) ?_
    refine lv_iload hx hb dL_law_1430 (lv_at hl 5 rfl) ?_
    refine lv_iconst (v := 2) hx hb dL_law_1432 (by decide) ?_
    refine lv_iadd hx hb dL_law_1433 ?_
    refine p_sld X hH hX hbl hbA hL (z := i + (2 : Int32)) (j := j + 2) (by rw [hi]; exact nI_add j 2) (by omega) dL_law_1434 ?_
    refine p_cV (As := [.int (xs (j + 1)), .int (xs (j + 2))]) (b := y) (rest := []) (ci := 9) X hH (c_X8_advise l G y (xs (j + 1)) (xs (j + 2)) _ bb h3 hg) mv_X8_advise (Or.inl m_1099) rfl hc9 (by decide) rfl hl.1 (Nat.le_of_ble_eq_true rfl) dL_law_1435 (c2 := cells + 20) (s2 := slots + 240) ⟨by show cells + 10 + 0 ≤ _; omega, by show cells + 20 ≤ 601024; omega, by show slots + 140 + 0 ≤ _; omega, by show slots + 240 ≤ 7293034; omega⟩ (fun H locs hH => ?_)
    refine lv_istore (lv' := [(6, .int bb), (5, .int (cd_L_advise E)), (0, .ref b), (1, .ref x), (2, .ref y), (3, .ref z), (4, .int i)]) hx hb dL_law_1438 hl (by decide) rfl (fun ls hl => ?_)
    refine lv_aload_n hx hb dL_law_1440 rfl (lv_at hl 4 rfl) ?_
    refine p_cV (As := []) (b := y) (rest := []) (ci := 9) X hH (c_X8_thrown l G y _ _ h4 ht) mv_X8_thrown (Or.inl m_899) rfl hc9b (by decide) rfl hl.1 (Nat.le_of_ble_eq_true rfl) dL_law_1441 (c2 := cells + 20) (s2 := slots + 240) ⟨by show cells + 20 + 0 ≤ _; omega, by show cells + 20 ≤ 601024; omega, by show slots + 240 + 0 ≤ _; omega, by show slots + 240 ≤ 7293034; omega⟩ (fun H locs hH => ?_)
    refine lv_iload hx hb dL_law_1444 (lv_at hl 1 rfl) ?_
    refine lv_icmp_eq (tgt := 1451) hx hb dL_law_1446 (by decide) (fun _ => ?_) (fun z0 => absurd rfl z0)
    refine lv_iload hx hb dL_law_1451 (lv_at hl 1 rfl) ?_
    refine lv_if_ne (tgt := 1468) hx hb dL_law_1453 (by decide) (fun _ => ?_) (fun z0 => absurd z0 hne)
    refine lv_goto (tgt := 1526) hx hb dL_law_1468 (by decide) ?_
    exact kk h4 H locs ls hP hH (lv_sub hl [2, 3, 4, 5, 6] rfl)
set_option maxRecDepth 100000 in
set_option maxHeartbeats 4000000 in
theorem lc_discord (X : Cx G p s m args meth c cL_law 9 "VaneHouseLaw" meth.name ret) (hX : va_X b L xs s s.heap) (hbl : b < s.heap.size) (hbA : ¬ gB G ≤ b) (hL : L ≤ 3584) (hfl : l.stackTraces = false) {x y z : Nat} {i : Int32} (P : PH → Prop) (hH : Hx G s h H locs) (hl : lv_has ls 9 [(0, .ref b), (1, .ref x), (2, .ref y), (3, .ref z), (4, .int i)]) (hst : stY x y (f_X6_discord G x h) (fun h => f_X8_discord G y h) (fun r b => Op.cmpValue (FP.dcmp r b) CmpOp.l = 0) h P) (hcl : cells + 20 ≤ 601024) (hsl : slots + 240 ≤ 7293034)
    (kk : ∀ (h' : PH) (H' : Heap) (locs' : List Loc) (ls' : Array Slot), P h' → Hx G s h' H' locs' → lv_has ls' 9 [(0, .ref b), (1, .ref x), (2, .ref y), (3, .ref z), (4, .int i)] → W p l e room_1 s m args below meth c H' locs' (cells + 20) (slots + 240) Q (F0 m 1526 ls' [])) : W p l e room_1 s m args below meth c H locs cells slots Q (F0 m 1471 ls []) := by
  have hx := X.1
  have hb := X.2.1
  obtain ⟨⟨u7, hc7⟩, r, h1, hf, ⟨u9, hc9⟩, bb, h2, hg, heq, hP⟩ := hst
  refine lv_aload_n hx hb dL_law_1471 rfl (lv_at hl 1 rfl) ?_
  refine p_cV (As := []) (b := x) (rest := []) (ci := 7) X hH (c_X6_discord l G x h r h1 hf) mv_X6_discord (Or.inl m_255) rfl hc7 (by decide) rfl hl.1 (Nat.le_of_ble_eq_true rfl) dL_law_1472 (c2 := cells + 10) (s2 := slots + 140) ⟨by show cells + 0 ≤ _; omega, by show cells + 10 ≤ 601024; omega, by show slots + 0 ≤ _; omega, by show slots + 140 ≤ 7293034; omega⟩ (fun H locs hH => ?_)
  refine lv_dstore (lv' := [(5, .double r), (0, .ref b), (1, .ref x), (2, .ref y), (3, .ref z), (4, .int i)]) hx hb dL_law_1475 hl (by decide) rfl (fun ls hl => ?_)
  refine lv_aload_n hx hb dL_law_1477 rfl (lv_at hl 3 rfl) ?_
  refine p_cV (As := []) (b := y) (rest := []) (ci := 9) X hH (c_X8_discord l G y h1 bb h2 hg) mv_X8_discord (Or.inl m_1103) rfl hc9 (by decide) rfl hl.1 (Nat.le_of_ble_eq_true rfl) dL_law_1478 (c2 := cells + 20) (s2 := slots + 240) ⟨by show cells + 10 + 0 ≤ _; omega, by show cells + 20 ≤ 601024; omega, by show slots + 140 + 0 ≤ _; omega, by show slots + 240 ≤ 7293034; omega⟩ (fun H locs hH => ?_)
  refine lv_dstore (lv' := [(7, .double bb), (5, .double r), (0, .ref b), (1, .ref x), (2, .ref y), (3, .ref z), (4, .int i)]) hx hb dL_law_1481 hl (by decide) rfl (fun ls hl => ?_)
  refine lv_dload hx hb dL_law_1483 (lv_at hl 1 rfl) ?_
  refine lv_dload hx hb dL_law_1485 (lv_at hl 0 rfl) ?_
  refine lv_dcmp hx hb dL_law_1487 ?_
  refine lv_if_eq (tgt := 1509) hx hb dL_law_1488 (by decide) (fun _ => ?_) (fun z0 => absurd heq z0)
  refine lv_goto (tgt := 1526) hx hb dL_law_1509 (by decide) ?_
  exact kk h2 H locs ls hP hH (lv_sub hl [2, 3, 4, 5, 6] rfl)
set_option maxRecDepth 100000 in
set_option maxHeartbeats 4000000 in
theorem lc_digest (X : Cx G p s m args meth c cL_law 9 "VaneHouseLaw" meth.name ret) (hX : va_X b L xs s s.heap) (hbl : b < s.heap.size) (hbA : ¬ gB G ≤ b) (hL : L ≤ 3584) (hfl : l.stackTraces = false) {x y z : Nat} {i : Int32} (P : PH → Prop) (hH : Hx G s h H locs) (hl : lv_has ls 9 [(0, .ref b), (1, .ref x), (2, .ref y), (3, .ref z), (4, .int i)]) (hst : stY x y (f_X6_digest G x h) (fun h => f_X8_digest G y h) (fun r b => r = b) h P) (hcl : cells + 20 ≤ 601024) (hsl : slots + 240 ≤ 7293034)
    (kk : ∀ (h' : PH) (H' : Heap) (locs' : List Loc) (ls' : Array Slot), P h' → Hx G s h' H' locs' → lv_has ls' 9 [(0, .ref b), (1, .ref x), (2, .ref y), (3, .ref z), (4, .int i)] → W p l e room_1 s m args below meth c H' locs' (cells + 20) (slots + 240) Q (F0 m 1526 ls' [])) : W p l e room_1 s m args below meth c H locs cells slots Q (F0 m 1512 ls []) := by
  have hx := X.1
  have hb := X.2.1
  obtain ⟨⟨u7, hc7⟩, r, h1, hf, ⟨u9, hc9⟩, bb, h2, hg, heq, hP⟩ := hst
  refine lv_aload_n hx hb dL_law_1512 rfl (lv_at hl 1 rfl) ?_
  refine p_cV (As := []) (b := x) (rest := []) (ci := 7) X hH (c_X6_digest l G x h r h1 hf) mv_X6_digest (Or.inl m_275) rfl hc7 (by decide) rfl hl.1 (Nat.le_of_ble_eq_true rfl) dL_law_1513 (c2 := cells + 10) (s2 := slots + 140) ⟨by show cells + 0 ≤ _; omega, by show cells + 10 ≤ 601024; omega, by show slots + 0 ≤ _; omega, by show slots + 140 ≤ 7293034; omega⟩ (fun H locs hH => ?_)
  refine lv_aload_n hx hb dL_law_1516 rfl (lv_at hl 2 rfl) ?_
  refine p_cV (As := []) (b := y) (rest := [.long r]) (ci := 9) X hH (c_X8_digest l G y h1 bb h2 hg) mv_X8_digest (Or.inl m_1109) rfl hc9 (by decide) rfl hl.1 (Nat.le_of_ble_eq_true rfl) dL_law_1517 (c2 := cells + 20) (s2 := slots + 240) ⟨by show cells + 10 + 10 ≤ _; omega, by show cells + 20 ≤ 601024; omega, by show slots + 140 + 90 ≤ _; omega, by show slots + 240 ≤ 7293034; omega⟩ (fun H locs hH => ?_)
  refine W.lcmp hx hb dL_law_1520 ?_
  refine lv_if_eq (tgt := 1526) hx hb dL_law_1521 (by decide) (fun _ => ?_) (fun z0 => absurd (by rw [heq]; exact lg_same _) z0)
  exact kk h2 H locs ls hP hH (lv_sub hl [0, 1, 2, 3, 4] rfl)
end LAWC
