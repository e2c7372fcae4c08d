/-! ===== the methods as pure functions (printed by program from the decoded instructions) ===== -/
abbrev rm_X0_init : Room := { frames := 1, cells := 0, slots := 0, locals := 20 }
noncomputable def f_X0_init (G : GE) (x0 : Nat) (x1 : Nat) (x2 : Int32) (h : PH) : Option (Unit × PH) :=
  rd (sF 1 h x0 0 (.ref x1)) fun h => rd (sF 1 h x0 1 (.int x2)) fun h => some ((), h)
abbrev rm_X1_init : Room := { frames := 1, cells := 1, slots := 8, locals := 20 }
noncomputable def f_X1_init (G : GE) (x0 : Nat) (x1 : Int32) (x2 : Int32) (x3 : Int32) (x4 : Int32) (h : PH) : Option (Unit × PH) :=
  nw h (cI 8) fun q1 h => rd (sF 2 h x0 4 (.ref q1)) fun h => rd (sF 2 h x0 0 (.int x1)) fun h => rd (sF 2 h x0 1 (.int x2)) fun h => rd (sF 2 h x0 2 (.int x3)) fun h => rd (sF 2 h x0 3 (.int x4)) fun h => some ((), h)
abbrev rm_X1_isInLine : Room := { frames := 0, cells := 0, slots := 0, locals := 0 }
noncomputable def f_X1_isInLine_b20 (G : GE)  (h : PH) : Option (Int32 × PH) :=
  z1 (0 : Int32) (some ((0 : Int32), h))
noncomputable def f_X1_isInLine_b69 (G : GE) (k24 : Nat → Nat → Int32 → Int32 → PH → Option (Int32 × PH)) (x0 : Nat) (x1 : Nat) (x2 : Int32) (x3 : Int32) (h : PH) : Option (Int32 × PH) :=
  k24 x0 x1 x2 (x3 + (1 : Int32)) h
noncomputable def f_X1_isInLine_b24_body (G : GE) (k24 : Nat → Nat → Int32 → Int32 → PH → Option (Int32 × PH)) (x0 : Nat) (x1 : Nat) (x2 : Int32) (x3 : Int32) (h : PH) : Option (Int32 × PH) :=
  (if (3 : Int32) < x3 then (z1 (0 : Int32) (some ((0 : Int32), h))) else (rd (gI 2 h x1 0) fun v1 => rd (gI 2 h x0 0) fun v2 => ti x2 <| (if v1 = (v2 + (x3 * (csF (x2).toNatClampNeg))) then (rd (gI 2 h x1 1) fun v3 => rd (gI 2 h x0 1) fun v4 => ti x2 <| (if v3 = (v4 + (x3 * (rsF (x2).toNatClampNeg))) then (z1 (1 : Int32) (some ((1 : Int32), h))) else (f_X1_isInLine_b69 G k24 x0 x1 x2 x3 h))) else (f_X1_isInLine_b69 G k24 x0 x1 x2 x3 h))))
noncomputable def f_X1_isInLine_b24 (G : GE) (n : Nat) : Nat → Nat → Int32 → Int32 → PH → Option (Int32 × PH) := lp (fun _ _ _ _ _ => none) (f_X1_isInLine_b24_body G) n
noncomputable def f_X1_isInLine (G : GE) (x0 : Nat) (x1 : Nat) (x2 : Int32) (h : PH) : Option (Int32 × PH) :=
  (if x2 < 0 then (f_X1_isInLine_b20 G  h) else ((if (8 : Int32) ≤ x2 then (f_X1_isInLine_b20 G  h) else ((if x2 < (8 : Int32) then (f_X1_isInLine_b24 G LF x0 x1 x2 (1 : Int32) h) else (f_X1_isInLine_b20 G  h))))))
abbrev rm_X1_lookAt : Room := { frames := 1, cells := 0, slots := 0, locals := 23 }
noncomputable def f_X1_lookAt_b42 (G : GE) (k14 : Nat → Nat → Int32 → PH → Option (Unit × PH)) (x0 : Nat) (x1 : Nat) (x2 : Int32) (h : PH) : Option (Unit × PH) :=
  k14 x0 x1 (x2 + (1 : Int32)) h
noncomputable def f_X1_lookAt_b14_body (G : GE) (k14 : Nat → Nat → Int32 → PH → Option (Unit × PH)) (x0 : Nat) (x1 : Nat) (x2 : Int32) (h : PH) : Option (Unit × PH) :=
  rd (gR 2 h x0 4) fun v3 => rd (aLen G h v3) fun v4 => (if v4 ≤ x2 then (some ((), h)) else (rd (isC 2 h x0) fun _ => bd (f_X1_isInLine G x0 x1 x2 h) fun v5 h => (if v5 = 0 then (f_X1_lookAt_b42 G k14 x0 x1 x2 h) else (rd (gR 2 h x0 4) fun v6 => rd (aI h v6 x2) fun v7 => rd (aIs h v6 x2 (v7 + (1 : Int32))) fun h => f_X1_lookAt_b42 G k14 x0 x1 x2 h))))
noncomputable def f_X1_lookAt_b14 (G : GE) (n : Nat) : Nat → Nat → Int32 → PH → Option (Unit × PH) := lp (fun _ _ _ _ => none) (f_X1_lookAt_b14_body G) n
noncomputable def f_X1_lookAt (G : GE) (x0 : Nat) (x1 : Nat) (h : PH) : Option (Unit × PH) :=
  rd (gI 2 h x1 2) fun v1 => rd (gI 2 h x0 2) fun v2 => (if v2 < v1 then (f_X1_lookAt_b14 G LF x0 x1 (0 : Int32) h) else (some ((), h)))
abbrev rm_X1_leeOf : Room := { frames := 0, cells := 0, slots := 0, locals := 0 }
noncomputable def f_X1_leeOf_b28 (G : GE) (t0 : Int32) (h : PH) : Option (Int32 × PH) :=
  some (t0, h)
noncomputable def f_X1_leeOf_b27 (G : GE)  (h : PH) : Option (Int32 × PH) :=
  f_X1_leeOf_b28 G (0 : Int32) h
noncomputable def f_X1_leeOf (G : GE) (x0 : Nat) (x1 : Nat) (h : PH) : Option (Int32 × PH) :=
  rd (gI 6 h x1 3) fun v1 => (if v1 < 0 then (f_X1_leeOf_b27 G  h) else (rd (gR 2 h x0 4) fun v2 => rd (aLen G h v2) fun v3 => (if v3 ≤ v1 then (f_X1_leeOf_b27 G  h) else (rd (gR 2 h x0 4) fun v4 => rd (aI h v4 v1) fun v5 => f_X1_leeOf_b28 G v5 h))))
abbrev rm_X2_init : Room := { frames := 1, cells := 0, slots := 0, locals := 20 }
noncomputable def f_X2_init (G : GE) (x0 : Nat) (x1 : Int32) (x2 : Int32) (x3 : Int32) (x4 : Int32) (x5 : Int32) (h : PH) : Option (Unit × PH) :=
  rd (sF 3 h x0 0 (.int x1)) fun h => rd (sF 3 h x0 1 (.int x2)) fun h => rd (sF 3 h x0 2 (.int x3)) fun h => rd (sF 3 h x0 3 (.int x4)) fun h => rd (sF 3 h x0 4 (.int x5)) fun h => some ((), h)
abbrev rm_Jx4a65c_size_8abf5 : Room := { frames := 0, cells := 0, slots := 0, locals := 0 }
noncomputable def f_Jx4a65c_size_8abf5 (G : GE) (x0 : Nat) (h : PH) : Option (Int32 × PH) :=
  rd (gI 0 h x0 2) fun v1 => some (v1, h)
abbrev rm_J3_checkIndex_8e157 : Room := { frames := 0, cells := 0, slots := 0, locals := 0 }
noncomputable def f_J3_checkIndex_8e157_b9 (G : GE) (x0 : Int32) (x1 : Int32) (h : PH) : Option (Int32 × PH) :=
  none
noncomputable def f_J3_checkIndex_8e157 (G : GE) (x0 : Int32) (x1 : Int32) (h : PH) : Option (Int32 × PH) :=
  (if x0 < 0 then (f_J3_checkIndex_8e157_b9 G x0 x1 h) else ((if x0 < x1 then (some (x0, h)) else (f_J3_checkIndex_8e157_b9 G x0 x1 h))))
abbrev rm_J15_checkIndex_7cf53 : Room := { frames := 1, cells := 0, slots := 0, locals := 22 }
noncomputable def f_J15_checkIndex_7cf53 (G : GE) (x0 : Int32) (x1 : Int32) (h : PH) : Option (Int32 × PH) :=
  bd (f_J3_checkIndex_8e157 G x0 x1 h) fun v1 h => some (v1, h)
abbrev rm_Jx4a65c_elementData_915e3 : Room := { frames := 0, cells := 0, slots := 0, locals := 0 }
noncomputable def f_Jx4a65c_elementData_915e3 (G : GE) (x0 : Nat) (x1 : Int32) (h : PH) : Option (Nat × PH) :=
  rd (gR 0 h x0 1) fun v1 => rd (aR h v1 x1) fun v2 => some (v2, h)
abbrev rm_Jx4a65c_get_915e3 : Room := { frames := 2, cells := 0, slots := 0, locals := 43 }
noncomputable def f_Jx4a65c_get_915e3 (G : GE) (x0 : Nat) (x1 : Int32) (h : PH) : Option (Nat × PH) :=
  rd (gI 0 h x0 2) fun v1 => bd (f_J15_checkIndex_7cf53 G x1 v1 h) fun v2 h => rd (isC 0 h x0) fun _ => bd (f_Jx4a65c_elementData_915e3 G x0 x1 h) fun v3 h => some (v3, h)
abbrev rm_X6_steps : Room := { frames := 0, cells := 0, slots := 0, locals := 0 }
noncomputable def f_X6_steps (G : GE) (x0 : Int32) (x1 : Int32) (h : PH) : Option (Int32 × PH) :=
  some ((((((x1 - x0) + (7 : Int32)) + (16 : Int32)) - (((x1 - x0) + (7 : Int32)) + (16 : Int32)) / (16 : Int32) * (16 : Int32)) - (7 : Int32)), h)
abbrev rm_X6_distance : Room := { frames := 1, cells := 0, slots := 0, locals := 21 }
noncomputable def f_X6_distance (G : GE) (x0 : Int32) (x1 : Int32) (h : PH) : Option (Int32 × PH) :=
  bd (f_X6_steps G x0 x1 h) fun v1 h => some ((abI v1), h)
abbrev rm_X2_sideOf : Room := { frames := 2, cells := 0, slots := 0, locals := 42 }
noncomputable def f_X2_sideOf_b40 (G : GE) (t0 : Int32) (h : PH) : Option (Int32 × PH) :=
  some (t0, h)
noncomputable def f_X2_sideOf (G : GE) (x0 : Nat) (x1 : Nat) (h : PH) : Option (Int32 × PH) :=
  rd (gI 5 h x1 3) fun v1 => rd (gI 3 h x0 1) fun v2 => bd (f_X6_distance G v1 v2 h) fun v3 h => rd (gI 3 h x0 2) fun v4 => (if v4 < v3 then (rd (gI 3 h x0 2) fun v5 => (if v3 < ((8 : Int32) - (v5 / (2 : Int32))) then (f_X2_sideOf_b40 G (0 : Int32) h) else (f_X2_sideOf_b40 G (-1 : Int32) h))) else (some ((1 : Int32), h)))
abbrev rm_X3_votesOnSide : Room := { frames := 3, cells := 0, slots := 0, locals := 64 }
noncomputable def f_X3_votesOnSide_b55 (G : GE) (k5 : Nat → Nat → Int32 → Int32 → Int32 → PH → Option (Int32 × PH)) (x0 : Nat) (x1 : Nat) (x2 : Int32) (x3 : Int32) (x4 : Int32) (h : PH) : Option (Int32 × PH) :=
  k5 x0 x1 x2 x3 (x4 + (1 : Int32)) h
noncomputable def f_X3_votesOnSide_b5_body (G : GE) (k5 : Nat → Nat → Int32 → Int32 → Int32 → PH → Option (Int32 × PH)) (x0 : Nat) (x1 : Nat) (x2 : Int32) (x3 : Int32) (x4 : Int32) (h : PH) : Option (Int32 × PH) :=
  rd (gR 4 h x0 0) fun v1 => rd (isC 0 h v1) fun _ => bd (f_Jx4a65c_size_8abf5 G v1 h) fun v2 h => (if v2 ≤ x4 then (some (x3, h)) else (rd (gR 4 h x0 0) fun v3 => rd (isC 0 h v3) fun _ => bd (f_Jx4a65c_get_915e3 G v3 x4 h) fun v4 h => rd (isC 5 h v4) fun _ => rd (isC 3 h x1) fun _ => bd (f_X2_sideOf G x1 v4 h) fun v5 h => (if v5 = x2 then (rd (gR 4 h x0 0) fun v6 => rd (isC 0 h v6) fun _ => bd (f_Jx4a65c_get_915e3 G v6 x4 h) fun v7 h => rd (isC 5 h v7) fun _ => rd (gI 5 h v7 1) fun v8 => f_X3_votesOnSide_b55 G k5 x0 x1 x2 (x3 + v8) x4 h) else (f_X3_votesOnSide_b55 G k5 x0 x1 x2 x3 x4 h))))
noncomputable def f_X3_votesOnSide_b5 (G : GE) (n : Nat) : Nat → Nat → Int32 → Int32 → Int32 → PH → Option (Int32 × PH) := lp (fun _ _ _ _ _ _ => none) (f_X3_votesOnSide_b5_body G) n
noncomputable def f_X3_votesOnSide (G : GE) (x0 : Nat) (x1 : Nat) (x2 : Int32) (h : PH) : Option (Int32 × PH) :=
  f_X3_votesOnSide_b5 G LF x0 x1 x2 (0 : Int32) (0 : Int32) h
abbrev rm_X3_carries : Room := { frames := 3, cells := 0, slots := 0, locals := 64 }
noncomputable def f_X3_carries_b105 (G : GE) (t0 : Int32) (h : PH) : Option (Int32 × PH) :=
  z1 t0 (some (t0, h))
noncomputable def f_X3_carries_b104 (G : GE)  (h : PH) : Option (Int32 × PH) :=
  f_X3_carries_b105 G (0 : Int32) h
noncomputable def f_X3_carries_b7_body (G : GE) (k7 : Nat → Nat → Int32 → Int32 → Int32 → PH → Option (Int32 × PH)) (x0 : Nat) (x1 : Nat) (x2 : Int32) (x3 : Int32) (x4 : Int32) (h : PH) : Option (Int32 × PH) :=
  rd (gR 4 h x0 0) fun v1 => rd (isC 0 h v1) fun _ => bd (f_Jx4a65c_size_8abf5 G v1 h) fun v2 h => (if v2 ≤ x4 then (rd (gI 3 h x1 3) fun v3 => (if x2 < v3 then (f_X3_carries_b104 G  h) else ((if x3 ≤ 0 then (f_X3_carries_b104 G  h) else (f_X3_carries_b105 G (1 : Int32) h))))) else (rd (gR 4 h x0 0) fun v4 => rd (isC 0 h v4) fun _ => bd (f_Jx4a65c_get_915e3 G v4 x4 h) fun v5 h => rd (isC 5 h v5) fun _ => rd (isC 3 h x1) fun _ => bd (f_X2_sideOf G x1 v5 h) fun v6 h => rd (gR 4 h x0 0) fun v7 => rd (isC 0 h v7) fun _ => bd (f_Jx4a65c_get_915e3 G v7 x4 h) fun v8 h => rd (isC 5 h v8) fun _ => rd (gI 5 h v8 1) fun v9 => rd (gR 4 h x0 0) fun v10 => rd (isC 0 h v10) fun _ => bd (f_Jx4a65c_get_915e3 G v10 x4 h) fun v11 h => rd (isC 5 h v11) fun _ => rd (gI 5 h v11 1) fun v12 => k7 x0 x1 (x2 + (v9 * (abI v6))) (x3 + (v12 * v6)) (x4 + (1 : Int32)) h))
noncomputable def f_X3_carries_b7 (G : GE) (n : Nat) : Nat → Nat → Int32 → Int32 → Int32 → PH → Option (Int32 × PH) := lp (fun _ _ _ _ _ _ => none) (f_X3_carries_b7_body G) n
noncomputable def f_X3_carries (G : GE) (x0 : Nat) (x1 : Nat) (h : PH) : Option (Int32 × PH) :=
  f_X3_carries_b7 G LF x0 x1 (0 : Int32) (0 : Int32) (0 : Int32) h
abbrev rm_X2_tell : Room := { frames := 4, cells := 0, slots := 0, locals := 89 }
noncomputable def f_X2_tell_b95 (G : GE) (t0 : Int32) (h : PH) : Option (Int32 × PH) :=
  some (t0, h)
noncomputable def f_X2_tell (G : GE) (x0 : Nat) (x1 : Int32) (x2 : Nat) (h : PH) : Option (Int32 × PH) :=
  if x1 = (0 : Int32) then (rd (gI 3 h x0 1) fun v2 => some (v2, h)) else (if x1 = (1 : Int32) then (rd (gI 3 h x0 2) fun v4 => some (v4, h)) else (if x1 = (2 : Int32) then (rd (gI 3 h x0 3) fun v6 => some (v6, h)) else (if x1 = (3 : Int32) then (rd (gI 3 h x0 4) fun v8 => some (v8, h)) else (if x1 = (4 : Int32) then (rd (isC 4 h x2) fun _ => bd (f_X3_votesOnSide G x2 x0 (1 : Int32) h) fun v10 h => some (v10, h)) else (if x1 = (5 : Int32) then (rd (isC 4 h x2) fun _ => bd (f_X3_votesOnSide G x2 x0 (-1 : Int32) h) fun v12 h => some (v12, h)) else (if x1 = (6 : Int32) then (rd (isC 4 h x2) fun _ => bd (f_X3_carries G x2 x0 h) fun v14 h => (if v14 = 0 then (f_X2_tell_b95 G (0 : Int32) h) else (f_X2_tell_b95 G (1 : Int32) h))) else (if x1 = (7 : Int32) then (rd (gI 3 h x0 5) fun v16 => some (v16, h)) else (rd (gI 3 h x0 6) fun v17 => some (v17, h)))))))))
abbrev rm_X2_noteVoting : Room := { frames := 0, cells := 0, slots := 0, locals := 0 }
noncomputable def f_X2_noteVoting_b24 (G : GE)  (h : PH) : Option (Unit × PH) :=
  some ((), h)
noncomputable def f_X2_noteVoting (G : GE) (x0 : Nat) (x1 : Int32) (h : PH) : Option (Unit × PH) :=
  rd (gI 3 h x0 5) fun v1 => rd (sF 3 h x0 5 (.int (v1 + (1 : Int32)))) fun h => (if x1 = 0 then (f_X2_noteVoting_b24 G  h) else (rd (gI 3 h x0 6) fun v2 => rd (sF 3 h x0 6 (.int (v2 + (1 : Int32)))) fun h => f_X2_noteVoting_b24 G  h))
abbrev rm_Jxa1e45_init_da8c8 : Room := { frames := 1, cells := 0, slots := 0, locals := 20 }
noncomputable def f_Jxa1e45_init_da8c8 (G : GE) (x0 : Nat) (h : PH) : Option (Unit × PH) :=
  some ((), h)
abbrev rm_Jxc12de_init_da8c8 : Room := { frames := 2, cells := 0, slots := 0, locals := 40 }
noncomputable def f_Jxc12de_init_da8c8 (G : GE) (x0 : Nat) (h : PH) : Option (Unit × PH) :=
  bd (f_Jxa1e45_init_da8c8 G x0 h) fun _ h => rd (sF 0 h x0 0 (.int (0 : Int32))) fun h => some ((), h)
abbrev rm_Jx4a65c_init_da8c8 : Room := { frames := 3, cells := 0, slots := 0, locals := 60 }
noncomputable def f_Jx4a65c_init_da8c8 (G : GE) (x0 : Nat) (h : PH) : Option (Unit × PH) :=
  bd (f_Jxc12de_init_da8c8 G x0 h) fun _ h => rd (sF 0 h x0 1 (.ref (gDE G))) fun h => some ((), h)
abbrev rm_X3_init : Room := { frames := 4, cells := 1, slots := 3, locals := 80 }
noncomputable def f_X3_init (G : GE) (x0 : Nat) (h : PH) : Option (Unit × PH) :=
  nw h (.inr (0, [.int 0, .null, .int 0])) fun q1 h => bd (f_Jx4a65c_init_da8c8 G q1 h) fun _ h => rd (sF 4 h x0 0 (.ref q1)) fun h => some ((), h)
abbrev rm_X4_copyFrom : Room := { frames := 0, cells := 0, slots := 0, locals := 0 }
noncomputable def f_X4_copyFrom (G : GE) (x0 : Nat) (x1 : Nat) (h : PH) : Option (Unit × PH) :=
  rd (gI 5 h x1 1) fun v1 => rd (sF 5 h x0 1 (.int v1)) fun h => rd (gI 5 h x1 2) fun v2 => rd (sF 5 h x0 2 (.int v2)) fun h => rd (gI 5 h x1 3) fun v3 => rd (sF 5 h x0 3 (.int v3)) fun h => rd (gI 5 h x1 4) fun v4 => rd (sF 5 h x0 4 (.int v4)) fun h => rd (gI 5 h x1 5) fun v5 => rd (sF 5 h x0 5 (.int v5)) fun h => rd (gI 5 h x1 6) fun v6 => rd (sF 5 h x0 6 (.int v6)) fun h => some ((), h)
abbrev rm_X3_copyAllFrom : Room := { frames := 3, cells := 0, slots := 0, locals := 64 }
noncomputable def f_X3_copyAllFrom_b55 (G : GE)  (h : PH) : Option (Unit × PH) :=
  some ((), h)
noncomputable def f_X3_copyAllFrom_b2_body (G : GE) (k2 : Nat → Nat → Int32 → PH → Option (Unit × PH)) (x0 : Nat) (x1 : Nat) (x2 : Int32) (h : PH) : Option (Unit × PH) :=
  rd (gR 4 h x0 0) fun v1 => rd (isC 0 h v1) fun _ => bd (f_Jx4a65c_size_8abf5 G v1 h) fun v2 h => (if v2 ≤ x2 then (f_X3_copyAllFrom_b55 G  h) else (rd (gR 4 h x1 0) fun v3 => rd (isC 0 h v3) fun _ => bd (f_Jx4a65c_size_8abf5 G v3 h) fun v4 h => (if v4 ≤ x2 then (f_X3_copyAllFrom_b55 G  h) else (rd (gR 4 h x0 0) fun v5 => rd (isC 0 h v5) fun _ => bd (f_Jx4a65c_get_915e3 G v5 x2 h) fun v6 h => rd (isC 5 h v6) fun _ => rd (gR 4 h x1 0) fun v7 => rd (isC 0 h v7) fun _ => bd (f_Jx4a65c_get_915e3 G v7 x2 h) fun v8 h => rd (isC 5 h v8) fun _ => rd (isC 5 h v6) fun _ => bd (f_X4_copyFrom G v6 v8 h) fun _ h => k2 x0 x1 (x2 + (1 : Int32)) h))))
noncomputable def f_X3_copyAllFrom_b2 (G : GE) (n : Nat) : Nat → Nat → Int32 → PH → Option (Unit × PH) := lp (fun _ _ _ _ => none) (f_X3_copyAllFrom_b2_body G) n
noncomputable def f_X3_copyAllFrom (G : GE) (x0 : Nat) (x1 : Nat) (h : PH) : Option (Unit × PH) :=
  f_X3_copyAllFrom_b2 G LF x0 x1 (0 : Int32) h
abbrev rm_X3_hasOneAt : Room := { frames := 3, cells := 0, slots := 0, locals := 64 }
noncomputable def f_X3_hasOneAt_b49 (G : GE) (k2 : Nat → Int32 → Int32 → Int32 → PH → Option (Int32 × PH)) (x0 : Nat) (x1 : Int32) (x2 : Int32) (x3 : Int32) (h : PH) : Option (Int32 × PH) :=
  k2 x0 x1 x2 (x3 + (1 : Int32)) h
noncomputable def f_X3_hasOneAt_b2_body (G : GE) (k2 : Nat → Int32 → Int32 → Int32 → PH → Option (Int32 × PH)) (x0 : Nat) (x1 : Int32) (x2 : Int32) (x3 : Int32) (h : PH) : Option (Int32 × PH) :=
  rd (gR 4 h x0 0) fun v1 => rd (isC 0 h v1) fun _ => bd (f_Jx4a65c_size_8abf5 G v1 h) fun v2 h => (if v2 ≤ x3 then (z1 (0 : Int32) (some ((0 : Int32), h))) else (rd (gR 4 h x0 0) fun v3 => rd (isC 0 h v3) fun _ => bd (f_Jx4a65c_get_915e3 G v3 x3 h) fun v4 h => rd (isC 5 h v4) fun _ => rd (gR 5 h v4 0) fun v5 => rd (gI 2 h v5 0) fun v6 => (if v6 = x1 then (rd (gI 2 h v5 1) fun v7 => (if v7 = x2 then (z1 (1 : Int32) (some ((1 : Int32), h))) else (f_X3_hasOneAt_b49 G k2 x0 x1 x2 x3 h))) else (f_X3_hasOneAt_b49 G k2 x0 x1 x2 x3 h))))
noncomputable def f_X3_hasOneAt_b2 (G : GE) (n : Nat) : Nat → Int32 → Int32 → Int32 → PH → Option (Int32 × PH) := lp (fun _ _ _ _ _ => none) (f_X3_hasOneAt_b2_body G) n
noncomputable def f_X3_hasOneAt (G : GE) (x0 : Nat) (x1 : Int32) (x2 : Int32) (h : PH) : Option (Int32 × PH) :=
  f_X3_hasOneAt_b2 G LF x0 x1 x2 (0 : Int32) h
abbrev rm_X3_shelter : Room := { frames := 3, cells := 0, slots := 0, locals := 64 }
noncomputable def f_X3_shelter_b2_body (G : GE) (k2 : Nat → Nat → Int32 → PH → Option (Unit × PH)) (x0 : Nat) (x1 : Nat) (x2 : Int32) (h : PH) : Option (Unit × PH) :=
  rd (gR 4 h x0 0) fun v1 => rd (isC 0 h v1) fun _ => bd (f_Jx4a65c_size_8abf5 G v1 h) fun v2 h => (if v2 ≤ x2 then (some ((), h)) else (rd (gR 4 h x0 0) fun v3 => rd (isC 0 h v3) fun _ => bd (f_Jx4a65c_get_915e3 G v3 x2 h) fun v4 h => rd (isC 5 h v4) fun _ => rd (gR 5 h v4 0) fun v5 => rd (isC 2 h x1) fun _ => bd (f_X1_lookAt G x1 v5 h) fun _ h => rd (gR 4 h x0 0) fun v6 => rd (isC 0 h v6) fun _ => bd (f_Jx4a65c_get_915e3 G v6 x2 h) fun v7 h => rd (isC 5 h v7) fun _ => rd (gR 5 h v7 0) fun v8 => rd (isC 2 h v8) fun _ => bd (f_X1_lookAt G v8 x1 h) fun _ h => k2 x0 x1 (x2 + (1 : Int32)) h))
noncomputable def f_X3_shelter_b2 (G : GE) (n : Nat) : Nat → Nat → Int32 → PH → Option (Unit × PH) := lp (fun _ _ _ _ => none) (f_X3_shelter_b2_body G) n
noncomputable def f_X3_shelter (G : GE) (x0 : Nat) (x1 : Nat) (h : PH) : Option (Unit × PH) :=
  f_X3_shelter_b2 G LF x0 x1 (0 : Int32) h
abbrev rm_X3_directionOf : Room := { frames := 3, cells := 0, slots := 0, locals := 64 }
noncomputable def f_X3_directionOf_b33 (G : GE) (t0 : Int32) (h : PH) : Option (Int32 × PH) :=
  some (t0, h)
noncomputable def f_X3_directionOf_b32 (G : GE)  (h : PH) : Option (Int32 × PH) :=
  f_X3_directionOf_b33 G (0 : Int32) h
noncomputable def f_X3_directionOf (G : GE) (x0 : Nat) (x1 : Int32) (h : PH) : Option (Int32 × PH) :=
  (if x1 < 0 then (f_X3_directionOf_b32 G  h) else (rd (gR 4 h x0 0) fun v1 => rd (isC 0 h v1) fun _ => bd (f_Jx4a65c_size_8abf5 G v1 h) fun v2 h => (if v2 ≤ x1 then (f_X3_directionOf_b32 G  h) else (rd (gR 4 h x0 0) fun v3 => rd (isC 0 h v3) fun _ => bd (f_Jx4a65c_get_915e3 G v3 x1 h) fun v4 h => rd (isC 5 h v4) fun _ => rd (gI 5 h v4 3) fun v5 => f_X3_directionOf_b33 G v5 h))))
abbrev rm_X4_windHere : Room := { frames := 1, cells := 0, slots := 0, locals := 22 }
noncomputable def f_X4_windHere (G : GE) (x0 : Nat) (x1 : Nat) (h : PH) : Option (Int32 × PH) :=
  rd (gI 6 h x1 1) fun v1 => rd (gR 5 h x0 0) fun v2 => rd (isC 2 h v2) fun _ => bd (f_X1_leeOf G v2 x1 h) fun v3 h => some ((mxI (0 : Int32) (v1 - ((2 : Int32) * v3))), h)
abbrev rm_X4_isStuck : Room := { frames := 2, cells := 0, slots := 0, locals := 43 }
noncomputable def f_X4_isStuck_b17 (G : GE) (t0 : Int32) (h : PH) : Option (Int32 × PH) :=
  z1 t0 (some (t0, h))
noncomputable def f_X4_isStuck (G : GE) (x0 : Nat) (x1 : Nat) (h : PH) : Option (Int32 × PH) :=
  rd (isC 5 h x0) fun _ => bd (f_X4_windHere G x0 x1 h) fun v1 h => rd (gI 5 h x0 2) fun v2 => (if v2 < v1 then (f_X4_isStuck_b17 G (0 : Int32) h) else (f_X4_isStuck_b17 G (1 : Int32) h))
abbrev rm_J6_signum_0f7a4 : Room := { frames := 0, cells := 0, slots := 0, locals := 0 }
noncomputable def f_J6_signum_0f7a4 (G : GE) (x0 : Int32) (h : PH) : Option (Int32 × PH) :=
  some (((x0 >>> ((31 : Int32) &&& 31)) ||| ((((-x0)).toUInt32 >>> (((31 : Int32)).toUInt32 &&& Int32.toUInt32 31)).toInt32)), h)
abbrev rm_X4_nextSpin : Room := { frames := 2, cells := 0, slots := 0, locals := 43 }
noncomputable def f_X4_nextSpin_b62 (G : GE) (x2 : Int32) (t0 : Int32) (h : PH) : Option (Int32 × PH) :=
  (if t0 = 0 then (bd (f_J6_signum_0f7a4 G x2 h) fun v11 h => some (v11, h)) else (some ((mxI (-8 : Int32) (mnI (8 : Int32) t0)), h)))
noncomputable def f_X4_nextSpin (G : GE) (x0 : Nat) (x1 : Nat) (h : PH) : Option (Int32 × PH) :=
  rd (gI 5 h x0 3) fun v1 => rd (gI 6 h x1 0) fun v2 => bd (f_X6_steps G v1 v2 h) fun v3 h => rd (gI 5 h x0 4) fun v4 => rd (gR 5 h x0 0) fun v5 => rd (gI 2 h v5 3) fun v6 => rd (isC 5 h x0) fun _ => bd (f_X4_windHere G x0 x1 h) fun v7 h => rd (gR 5 h x0 0) fun v8 => rd (gI 2 h v8 3) fun v9 => rd (gI 5 h x0 2) fun v10 => (if ((v9 + (4 : Int32)) + v10) ≤ 0 then (f_X4_nextSpin_b62 G v3 (0 : Int32) h) else (nz ((v9 + (4 : Int32)) + v10) <| f_X4_nextSpin_b62 G v3 (((v4 * v6) + (v3 * v7)) / ((v9 + (4 : Int32)) + v10)) h))
abbrev rm_J9_floorMod_7cf53 : Room := { frames := 0, cells := 0, slots := 0, locals := 0 }
noncomputable def f_J9_floorMod_7cf53_b18 (G : GE) (x2 : Int32) (h : PH) : Option (Int32 × PH) :=
  some (x2, h)
noncomputable def f_J9_floorMod_7cf53 (G : GE) (x0 : Int32) (x1 : Int32) (h : PH) : Option (Int32 × PH) :=
  nz x1 <| (if 0 ≤ (x0 ^^^ x1) then (f_J9_floorMod_7cf53_b18 G (x0 - x0 / x1 * x1) h) else ((if (x0 - x0 / x1 * x1) = 0 then (f_J9_floorMod_7cf53_b18 G (x0 - x0 / x1 * x1) h) else (some (((x0 - x0 / x1 * x1) + x1), h)))))
abbrev rm_X4_blow : Room := { frames := 3, cells := 0, slots := 0, locals := 68 }
noncomputable def f_X4_blow_b68 (G : GE)  (h : PH) : Option (Unit × PH) :=
  some ((), h)
noncomputable def f_X4_blow (G : GE) (x0 : Nat) (x1 : Nat) (h : PH) : Option (Unit × PH) :=
  rd (gI 5 h x0 5) fun v1 => (if v1 ≤ 0 then (rd (isC 5 h x0) fun _ => bd (f_X4_isStuck G x0 x1 h) fun v2 h => (if v2 = 0 then (rd (isC 5 h x0) fun _ => bd (f_X4_nextSpin G x0 x1 h) fun v3 h => rd (sF 5 h x0 4 (.int v3)) fun h => rd (gI 5 h x0 3) fun v4 => rd (gI 5 h x0 4) fun v5 => bd (f_J9_floorMod_7cf53 G (v4 + v5) (16 : Int32) h) fun v6 h => rd (sF 5 h x0 3 (.int v6)) fun h => f_X4_blow_b68 G  h) else (rd (sF 5 h x0 4 (.int (0 : Int32))) fun h => f_X4_blow_b68 G  h))) else (rd (gI 5 h x0 5) fun v7 => rd (sF 5 h x0 5 (.int (v7 - (1 : Int32)))) fun h => rd (sF 5 h x0 4 (.int (0 : Int32))) fun h => f_X4_blow_b68 G  h))
abbrev rm_X3_blowOnAll : Room := { frames := 4, cells := 0, slots := 0, locals := 89 }
noncomputable def f_X3_blowOnAll_b2_body (G : GE) (k2 : Nat → Nat → Int32 → PH → Option (Unit × PH)) (x0 : Nat) (x1 : Nat) (x2 : Int32) (h : PH) : Option (Unit × PH) :=
  rd (gR 4 h x0 0) fun v1 => rd (isC 0 h v1) fun _ => bd (f_Jx4a65c_size_8abf5 G v1 h) fun v2 h => (if v2 ≤ x2 then (some ((), h)) else (rd (gR 4 h x0 0) fun v3 => rd (isC 0 h v3) fun _ => bd (f_Jx4a65c_get_915e3 G v3 x2 h) fun v4 h => rd (isC 5 h v4) fun _ => rd (isC 5 h v4) fun _ => bd (f_X4_blow G v4 x1 h) fun _ h => k2 x0 x1 (x2 + (1 : Int32)) h))
noncomputable def f_X3_blowOnAll_b2 (G : GE) (n : Nat) : Nat → Nat → Int32 → PH → Option (Unit × PH) := lp (fun _ _ _ _ => none) (f_X3_blowOnAll_b2_body G) n
noncomputable def f_X3_blowOnAll (G : GE) (x0 : Nat) (x1 : Nat) (h : PH) : Option (Unit × PH) :=
  f_X3_blowOnAll_b2 G LF x0 x1 (0 : Int32) h
abbrev rm_X4_takeRain : Room := { frames := 1, cells := 0, slots := 0, locals := 21 }
noncomputable def f_X4_takeRain_b35 (G : GE)  (h : PH) : Option (Unit × PH) :=
  some ((), h)
noncomputable def f_X4_takeRain (G : GE) (x0 : Nat) (h : PH) : Option (Unit × PH) :=
  rd (gI 5 h x0 6) fun v1 => rd (sF 5 h x0 6 (.int (v1 + (1 : Int32)))) fun h => rd (gI 5 h x0 6) fun v2 => (if (v2 - v2 / (2 : Int32) * (2 : Int32)) = (1 : Int32) then (rd (gI 5 h x0 2) fun v3 => rd (sF 5 h x0 2 (.int (mnI (9 : Int32) (v3 + (1 : Int32))))) fun h => f_X4_takeRain_b35 G  h) else (f_X4_takeRain_b35 G  h))
abbrev rm_X3_rainOnAll : Room := { frames := 3, cells := 0, slots := 0, locals := 64 }
noncomputable def f_X3_rainOnAll_b2_body (G : GE) (k2 : Nat → Int32 → PH → Option (Unit × PH)) (x0 : Nat) (x1 : Int32) (h : PH) : Option (Unit × PH) :=
  rd (gR 4 h x0 0) fun v1 => rd (isC 0 h v1) fun _ => bd (f_Jx4a65c_size_8abf5 G v1 h) fun v2 h => (if v2 ≤ x1 then (some ((), h)) else (rd (gR 4 h x0 0) fun v3 => rd (isC 0 h v3) fun _ => bd (f_Jx4a65c_get_915e3 G v3 x1 h) fun v4 h => rd (isC 5 h v4) fun _ => rd (isC 5 h v4) fun _ => bd (f_X4_takeRain G v4 h) fun _ h => k2 x0 (x1 + (1 : Int32)) h))
noncomputable def f_X3_rainOnAll_b2 (G : GE) (n : Nat) : Nat → Int32 → PH → Option (Unit × PH) := lp (fun _ _ _ => none) (f_X3_rainOnAll_b2_body G) n
noncomputable def f_X3_rainOnAll (G : GE) (x0 : Nat) (h : PH) : Option (Unit × PH) :=
  f_X3_rainOnAll_b2 G LF x0 (0 : Int32) h
abbrev rm_X4_takeOil : Room := { frames := 0, cells := 0, slots := 0, locals := 0 }
noncomputable def f_X4_takeOil (G : GE) (x0 : Nat) (h : PH) : Option (Unit × PH) :=
  rd (sF 5 h x0 2 (.int (0 : Int32))) fun h => rd (sF 5 h x0 6 (.int (0 : Int32))) fun h => some ((), h)
abbrev rm_X4_takeEffect : Room := { frames := 1, cells := 0, slots := 0, locals := 21 }
noncomputable def f_X4_takeEffect_b66 (G : GE)  (h : PH) : Option (Unit × PH) :=
  some ((), h)
noncomputable def f_X4_takeEffect_b42 (G : GE) (x0 : Nat) (x1 : Int32) (x2 : Int32) (h : PH) : Option (Unit × PH) :=
  (if x1 = (3 : Int32) then (rd (gI 5 h x0 1) fun v2 => rd (sF 5 h x0 1 (.int (mxI (0 : Int32) (mnI (9 : Int32) (v2 + x2))))) fun h => f_X4_takeEffect_b66 G  h) else (f_X4_takeEffect_b66 G  h))
noncomputable def f_X4_takeEffect_b17 (G : GE) (x0 : Nat) (x1 : Int32) (x2 : Int32) (h : PH) : Option (Unit × PH) :=
  (if x1 = (2 : Int32) then ((if x2 = (-1 : Int32) then (rd (gI 5 h x0 5) fun v1 => rd (sF 5 h x0 5 (.int (mxI v1 (4 : Int32)))) fun h => f_X4_takeEffect_b66 G  h) else (f_X4_takeEffect_b42 G x0 x1 x2 h))) else (f_X4_takeEffect_b42 G x0 x1 x2 h))
noncomputable def f_X4_takeEffect (G : GE) (x0 : Nat) (x1 : Int32) (x2 : Int32) (h : PH) : Option (Unit × PH) :=
  (if x1 = (1 : Int32) then ((if x2 = (1 : Int32) then (rd (isC 5 h x0) fun _ => bd (f_X4_takeOil G x0 h) fun _ h => f_X4_takeEffect_b66 G  h) else (f_X4_takeEffect_b17 G x0 x1 x2 h))) else (f_X4_takeEffect_b17 G x0 x1 x2 h))
abbrev rm_X3_giveEffect : Room := { frames := 3, cells := 0, slots := 0, locals := 64 }
noncomputable def f_X3_giveEffect_b2_body (G : GE) (k2 : Nat → Nat → Int32 → PH → Option (Unit × PH)) (x0 : Nat) (x1 : Nat) (x2 : Int32) (h : PH) : Option (Unit × PH) :=
  rd (gR 4 h x0 0) fun v1 => rd (isC 0 h v1) fun _ => bd (f_Jx4a65c_size_8abf5 G v1 h) fun v2 h => (if v2 ≤ x2 then (some ((), h)) else (rd (gR 4 h x0 0) fun v3 => rd (isC 0 h v3) fun _ => bd (f_Jx4a65c_get_915e3 G v3 x2 h) fun v4 h => rd (isC 5 h v4) fun _ => rd (gI 3 h x1 4) fun v5 => rd (gR 4 h x0 0) fun v6 => rd (isC 0 h v6) fun _ => bd (f_Jx4a65c_get_915e3 G v6 x2 h) fun v7 h => rd (isC 5 h v7) fun _ => rd (isC 3 h x1) fun _ => bd (f_X2_sideOf G x1 v7 h) fun v8 h => rd (isC 5 h v4) fun _ => bd (f_X4_takeEffect G v4 v5 v8 h) fun _ h => k2 x0 x1 (x2 + (1 : Int32)) h))
noncomputable def f_X3_giveEffect_b2 (G : GE) (n : Nat) : Nat → Nat → Int32 → PH → Option (Unit × PH) := lp (fun _ _ _ _ => none) (f_X3_giveEffect_b2_body G) n
noncomputable def f_X3_giveEffect (G : GE) (x0 : Nat) (x1 : Nat) (h : PH) : Option (Unit × PH) :=
  f_X3_giveEffect_b2 G LF x0 x1 (0 : Int32) h
abbrev rm_X4_partyNumber : Room := { frames := 0, cells := 0, slots := 0, locals := 0 }
noncomputable def f_X4_partyNumber (G : GE) (x0 : Nat) (h : PH) : Option (Int32 × PH) :=
  rd (gI 5 h x0 3) fun v1 => some ((((v1 + (2 : Int32)) / (4 : Int32)) - ((v1 + (2 : Int32)) / (4 : Int32)) / (4 : Int32) * (4 : Int32)), h)
abbrev rm_X3_votesOf : Room := { frames := 3, cells := 0, slots := 0, locals := 64 }
noncomputable def f_X3_votesOf_b54 (G : GE) (k4 : Nat → Int32 → Int32 → Int32 → PH → Option (Int32 × PH)) (x0 : Nat) (x1 : Int32) (x2 : Int32) (x3 : Int32) (h : PH) : Option (Int32 × PH) :=
  k4 x0 x1 x2 (x3 + (1 : Int32)) h
noncomputable def f_X3_votesOf_b4_body (G : GE) (k4 : Nat → Int32 → Int32 → Int32 → PH → Option (Int32 × PH)) (x0 : Nat) (x1 : Int32) (x2 : Int32) (x3 : Int32) (h : PH) : Option (Int32 × PH) :=
  rd (gR 4 h x0 0) fun v1 => rd (isC 0 h v1) fun _ => bd (f_Jx4a65c_size_8abf5 G v1 h) fun v2 h => (if v2 ≤ x3 then (some (x2, h)) else (rd (gR 4 h x0 0) fun v3 => rd (isC 0 h v3) fun _ => bd (f_Jx4a65c_get_915e3 G v3 x3 h) fun v4 h => rd (isC 5 h v4) fun _ => rd (isC 5 h v4) fun _ => bd (f_X4_partyNumber G v4 h) fun v5 h => (if ((x1 >>> (v5 &&& 31)) &&& (1 : Int32)) = (1 : Int32) then (rd (gR 4 h x0 0) fun v6 => rd (isC 0 h v6) fun _ => bd (f_Jx4a65c_get_915e3 G v6 x3 h) fun v7 h => rd (isC 5 h v7) fun _ => rd (gI 5 h v7 1) fun v8 => f_X3_votesOf_b54 G k4 x0 x1 (x2 + v8) x3 h) else (f_X3_votesOf_b54 G k4 x0 x1 x2 x3 h))))
noncomputable def f_X3_votesOf_b4 (G : GE) (n : Nat) : Nat → Int32 → Int32 → Int32 → PH → Option (Int32 × PH) := lp (fun _ _ _ _ _ => none) (f_X3_votesOf_b4_body G) n
noncomputable def f_X3_votesOf (G : GE) (x0 : Nat) (x1 : Int32) (h : PH) : Option (Int32 × PH) :=
  f_X3_votesOf_b4 G LF x0 x1 (0 : Int32) (0 : Int32) h
abbrev rm_X3_allVotes : Room := { frames := 4, cells := 0, slots := 0, locals := 87 }
noncomputable def f_X3_allVotes (G : GE) (x0 : Nat) (h : PH) : Option (Int32 × PH) :=
  rd (isC 4 h x0) fun _ => bd (f_X3_votesOf G x0 (15 : Int32) h) fun v1 h => some (v1, h)
abbrev rm_X3_vanesOf : Room := { frames := 3, cells := 0, slots := 0, locals := 64 }
noncomputable def f_X3_vanesOf_b4_body (G : GE) (k4 : Nat → Int32 → Int32 → Int32 → PH → Option (Int32 × PH)) (x0 : Nat) (x1 : Int32) (x2 : Int32) (x3 : Int32) (h : PH) : Option (Int32 × PH) :=
  rd (gR 4 h x0 0) fun v1 => rd (isC 0 h v1) fun _ => bd (f_Jx4a65c_size_8abf5 G v1 h) fun v2 h => (if v2 ≤ x3 then (some (x2, h)) else (rd (gR 4 h x0 0) fun v3 => rd (isC 0 h v3) fun _ => bd (f_Jx4a65c_get_915e3 G v3 x3 h) fun v4 h => rd (isC 5 h v4) fun _ => rd (isC 5 h v4) fun _ => bd (f_X4_partyNumber G v4 h) fun v5 h => k4 x0 x1 (x2 + ((x1 >>> (v5 &&& 31)) &&& (1 : Int32))) (x3 + (1 : Int32)) h))
noncomputable def f_X3_vanesOf_b4 (G : GE) (n : Nat) : Nat → Int32 → Int32 → Int32 → PH → Option (Int32 × PH) := lp (fun _ _ _ _ _ => none) (f_X3_vanesOf_b4_body G) n
noncomputable def f_X3_vanesOf (G : GE) (x0 : Nat) (x1 : Int32) (h : PH) : Option (Int32 × PH) :=
  f_X3_vanesOf_b4 G LF x0 x1 (0 : Int32) (0 : Int32) h
abbrev rm_X3_boundVanes : Room := { frames := 3, cells := 0, slots := 0, locals := 64 }
noncomputable def f_X3_boundVanes_b35 (G : GE) (k4 : Nat → Int32 → Int32 → PH → Option (Int32 × PH)) (x0 : Nat) (x1 : Int32) (x2 : Int32) (h : PH) : Option (Int32 × PH) :=
  k4 x0 x1 (x2 + (1 : Int32)) h
noncomputable def f_X3_boundVanes_b4_body (G : GE) (k4 : Nat → Int32 → Int32 → PH → Option (Int32 × PH)) (x0 : Nat) (x1 : Int32) (x2 : Int32) (h : PH) : Option (Int32 × PH) :=
  rd (gR 4 h x0 0) fun v1 => rd (isC 0 h v1) fun _ => bd (f_Jx4a65c_size_8abf5 G v1 h) fun v2 h => (if v2 ≤ x2 then (some (x1, h)) else (rd (gR 4 h x0 0) fun v3 => rd (isC 0 h v3) fun _ => bd (f_Jx4a65c_get_915e3 G v3 x2 h) fun v4 h => rd (isC 5 h v4) fun _ => rd (gI 5 h v4 5) fun v5 => (if v5 ≤ 0 then (f_X3_boundVanes_b35 G k4 x0 x1 x2 h) else (f_X3_boundVanes_b35 G k4 x0 (x1 + (1 : Int32)) x2 h))))
noncomputable def f_X3_boundVanes_b4 (G : GE) (n : Nat) : Nat → Int32 → Int32 → PH → Option (Int32 × PH) := lp (fun _ _ _ _ => none) (f_X3_boundVanes_b4_body G) n
noncomputable def f_X3_boundVanes (G : GE) (x0 : Nat) (h : PH) : Option (Int32 × PH) :=
  f_X3_boundVanes_b4 G LF x0 (0 : Int32) (0 : Int32) h
abbrev rm_X3_stuckVanes : Room := { frames := 3, cells := 0, slots := 0, locals := 64 }
noncomputable def f_X3_stuckVanes_b53 (G : GE) (k4 : Nat → Nat → Int32 → Int32 → PH → Option (Int32 × PH)) (x0 : Nat) (x1 : Nat) (x2 : Int32) (x3 : Int32) (h : PH) : Option (Int32 × PH) :=
  k4 x0 x1 x2 (x3 + (1 : Int32)) h
noncomputable def f_X3_stuckVanes_b4_body (G : GE) (k4 : Nat → Nat → Int32 → Int32 → PH → Option (Int32 × PH)) (x0 : Nat) (x1 : Nat) (x2 : Int32) (x3 : Int32) (h : PH) : Option (Int32 × PH) :=
  rd (gR 4 h x0 0) fun v1 => rd (isC 0 h v1) fun _ => bd (f_Jx4a65c_size_8abf5 G v1 h) fun v2 h => (if v2 ≤ x3 then (some (x2, h)) else (rd (gR 4 h x0 0) fun v3 => rd (isC 0 h v3) fun _ => bd (f_Jx4a65c_get_915e3 G v3 x3 h) fun v4 h => rd (isC 5 h v4) fun _ => rd (gI 5 h v4 5) fun v5 => (if v5 = 0 then (rd (gR 4 h x0 0) fun v6 => rd (isC 0 h v6) fun _ => bd (f_Jx4a65c_get_915e3 G v6 x3 h) fun v7 h => rd (isC 5 h v7) fun _ => rd (isC 5 h v7) fun _ => bd (f_X4_isStuck G v7 x1 h) fun v8 h => (if v8 = 0 then (f_X3_stuckVanes_b53 G k4 x0 x1 x2 x3 h) else (f_X3_stuckVanes_b53 G k4 x0 x1 (x2 + (1 : Int32)) x3 h))) else (f_X3_stuckVanes_b53 G k4 x0 x1 x2 x3 h))))
noncomputable def f_X3_stuckVanes_b4 (G : GE) (n : Nat) : Nat → Nat → Int32 → Int32 → PH → Option (Int32 × PH) := lp (fun _ _ _ _ _ => none) (f_X3_stuckVanes_b4_body G) n
noncomputable def f_X3_stuckVanes (G : GE) (x0 : Nat) (x1 : Nat) (h : PH) : Option (Int32 × PH) :=
  f_X3_stuckVanes_b4 G LF x0 x1 (0 : Int32) (0 : Int32) h
abbrev rm_X4_init : Room := { frames := 1, cells := 0, slots := 0, locals := 20 }
noncomputable def f_X4_init (G : GE) (x0 : Nat) (x1 : Nat) (x2 : Int32) (x3 : Int32) (h : PH) : Option (Unit × PH) :=
  rd (sF 5 h x0 0 (.ref x1)) fun h => rd (sF 5 h x0 1 (.int x2)) fun h => rd (sF 5 h x0 3 (.int x3)) fun h => some ((), h)
abbrev rm_X4_tell : Room := { frames := 2, cells := 0, slots := 0, locals := 43 }
noncomputable def f_X4_tell (G : GE) (x0 : Nat) (x1 : Int32) (x2 : Nat) (h : PH) : Option (Int32 × PH) :=
  if x1 = (0 : Int32) then (rd (gR 5 h x0 0) fun v2 => rd (gI 2 h v2 0) fun v3 => some (v3, h)) else (if x1 = (1 : Int32) then (rd (gR 5 h x0 0) fun v5 => rd (gI 2 h v5 1) fun v6 => some (v6, h)) else (if x1 = (2 : Int32) then (rd (gR 5 h x0 0) fun v8 => rd (gI 2 h v8 2) fun v9 => some (v9, h)) else (if x1 = (3 : Int32) then (rd (gR 5 h x0 0) fun v11 => rd (gI 2 h v11 3) fun v12 => some (v12, h)) else (if x1 = (4 : Int32) then (rd (gI 5 h x0 1) fun v14 => some (v14, h)) else (if x1 = (5 : Int32) then (rd (gI 5 h x0 2) fun v16 => some (v16, h)) else (if x1 = (6 : Int32) then (rd (gI 5 h x0 3) fun v18 => some (v18, h)) else (if x1 = (7 : Int32) then (rd (gI 5 h x0 4) fun v20 => some (v20, h)) else (if x1 = (8 : Int32) then (rd (gI 5 h x0 5) fun v22 => some (v22, h)) else (if x1 = (9 : Int32) then (rd (isC 5 h x0) fun _ => bd (f_X4_partyNumber G x0 h) fun v24 h => some (v24, h)) else (if x1 = (10 : Int32) then (rd (isC 5 h x0) fun _ => bd (f_X4_windHere G x0 x2 h) fun v26 h => some (v26, h)) else (rd (gR 5 h x0 0) fun v27 => rd (isC 2 h v27) fun _ => bd (f_X1_leeOf G v27 x2 h) fun v28 h => some (v28, h))))))))))))
abbrev rm_X5_init : Room := { frames := 1, cells := 0, slots := 0, locals := 20 }
noncomputable def f_X5_init (G : GE) (x0 : Nat) (x1 : Int32) (x2 : Int32) (x3 : Int32) (h : PH) : Option (Unit × PH) :=
  rd (sF 6 h x0 0 (.int x1)) fun h => rd (sF 6 h x0 1 (.int x2)) fun h => z1 x3 <| rd (sF 6 h x0 2 (.int x3)) fun h => rd (sF 6 h x0 3 (.int (((((x1 + (8 : Int32)) - (x1 + (8 : Int32)) / (16 : Int32) * (16 : Int32)) + (1 : Int32)) / (2 : Int32)) - ((((x1 + (8 : Int32)) - (x1 + (8 : Int32)) / (16 : Int32) * (16 : Int32)) + (1 : Int32)) / (2 : Int32)) / (8 : Int32) * (8 : Int32)))) fun h => some ((), h)
abbrev rm_X5_tell : Room := { frames := 0, cells := 0, slots := 0, locals := 0 }
noncomputable def f_X5_tell_b50 (G : GE) (t0 : Int32) (h : PH) : Option (Int32 × PH) :=
  some (t0, h)
noncomputable def f_X5_tell (G : GE) (x0 : Nat) (x1 : Int32) (h : PH) : Option (Int32 × PH) :=
  if x1 = (0 : Int32) then (rd (gI 6 h x0 0) fun v2 => some (v2, h)) else (if x1 = (1 : Int32) then (rd (gI 6 h x0 1) fun v4 => some (v4, h)) else (rd (gI 6 h x0 2) fun v5 => (if v5 = 0 then (f_X5_tell_b50 G (0 : Int32) h) else (f_X5_tell_b50 G (1 : Int32) h))))
abbrev rm_J8_newLength_cabcc : Room := { frames := 1, cells := 0, slots := 0, locals := 21 }
noncomputable def f_J8_newLength_cabcc_b21 (G : GE) (x0 : Int32) (x1 : Int32) (h : PH) : Option (Int32 × PH) :=
  none
noncomputable def f_J8_newLength_cabcc (G : GE) (x0 : Int32) (x1 : Int32) (x2 : Int32) (h : PH) : Option (Int32 × PH) :=
  (if (x0 + (mxI x1 x2)) ≤ (0 : Int32) then (f_J8_newLength_cabcc_b21 G x0 x1 h) else ((if (2147483639 : Int32) < (x0 + (mxI x1 x2)) then (f_J8_newLength_cabcc_b21 G x0 x1 h) else (some ((x0 + (mxI x1 x2)), h)))))
abbrev rm_J7_copyOf_6403c : Room := { frames := 1, cells := 1, slots := 48, locals := 60 }
noncomputable def f_J7_copyOf_6403c_b24 (G : GE) (x0 : Nat) (x1 : Int32) (t0 : Nat) (h : PH) : Option (Nat × PH) :=
  rd (aLen G h x0) fun v2 => rd (cpR h x0 (0 : Int32) t0 (0 : Int32) (mnI v2 x1)) fun h => some (t0, h)
noncomputable def f_J7_copyOf_6403c (G : GE) (x0 : Nat) (x1 : Int32) (x2 : Nat) (h : PH) : Option (Nat × PH) :=
  (if x2 = (gMI G) then (nwA h x1 48 cR fun q1 h => f_J7_copyOf_6403c_b24 G x0 x1 q1 h) else (none))
abbrev rm_J7_copyOf_1904c : Room := { frames := 2, cells := 1, slots := 48, locals := 83 }
noncomputable def f_J7_copyOf_1904c (G : GE) (x0 : Nat) (x1 : Int32) (h : PH) : Option (Nat × PH) :=
  rd (isA G h x0) fun _ => bd (f_J7_copyOf_6403c G x0 x1 (gMI G) h) fun v1 h => some (v1, h)
abbrev rm_Jx4a65c_grow_92f84 : Room := { frames := 3, cells := 1, slots := 48, locals := 104 }
noncomputable def f_Jx4a65c_grow_92f84_b20 (G : GE) (x0 : Nat) (x1 : Int32) (x2 : Int32) (h : PH) : Option (Nat × PH) :=
  bd (f_J8_newLength_cabcc G x2 (x1 - x2) (x2 >>> ((1 : Int32) &&& 31)) h) fun v5 h => rd (gR 0 h x0 1) fun v6 => bd (f_J7_copyOf_1904c G v6 v5 h) fun v7 h => rd (sF 0 h x0 1 (.ref v7)) fun h => some (v7, h)
noncomputable def f_Jx4a65c_grow_92f84 (G : GE) (x0 : Nat) (x1 : Int32) (h : PH) : Option (Nat × PH) :=
  rd (gR 0 h x0 1) fun v1 => rd (aLen G h v1) fun v2 => (if 0 < v2 then (f_Jx4a65c_grow_92f84_b20 G x0 x1 v2 h) else (rd (gR 0 h x0 1) fun v3 => (if v3 = (gDE G) then (nwA h (mxI (10 : Int32) x1) 48 cR fun q4 h => rd (sF 0 h x0 1 (.ref q4)) fun h => some (q4, h)) else (f_Jx4a65c_grow_92f84_b20 G x0 x1 v2 h))))
abbrev rm_Jx4a65c_grow_d5877 : Room := { frames := 4, cells := 1, slots := 48, locals := 127 }
noncomputable def f_Jx4a65c_grow_d5877 (G : GE) (x0 : Nat) (h : PH) : Option (Nat × PH) :=
  rd (gI 0 h x0 2) fun v1 => rd (isC 0 h x0) fun _ => bd (f_Jx4a65c_grow_92f84 G x0 (v1 + (1 : Int32)) h) fun v2 h => some (v2, h)
abbrev rm_Jx4a65c_add_72be8 : Room := { frames := 5, cells := 1, slots := 48, locals := 147 }
noncomputable def f_Jx4a65c_add_72be8_b11 (G : GE) (x0 : Nat) (x1 : Nat) (x2 : Nat) (x3 : Int32) (h : PH) : Option (Unit × PH) :=
  rd (isO h x1) fun _ => rd (aRs h x2 x3 (some x1)) fun h => rd (sF 0 h x0 2 (.int (x3 + (1 : Int32)))) fun h => some ((), h)
noncomputable def f_Jx4a65c_add_72be8 (G : GE) (x0 : Nat) (x1 : Nat) (x2 : Nat) (x3 : Int32) (h : PH) : Option (Unit × PH) :=
  rd (aLen G h x2) fun v1 => (if x3 = v1 then (rd (isC 0 h x0) fun _ => bd (f_Jx4a65c_grow_d5877 G x0 h) fun v2 h => f_Jx4a65c_add_72be8_b11 G x0 x1 v2 x3 h) else (f_Jx4a65c_add_72be8_b11 G x0 x1 x2 x3 h))
abbrev rm_Jx4a65c_add_9ea2d : Room := { frames := 6, cells := 1, slots := 48, locals := 170 }
noncomputable def f_Jx4a65c_add_9ea2d (G : GE) (x0 : Nat) (x1 : Nat) (h : PH) : Option (Int32 × PH) :=
  rd (gI 0 h x0 0) fun v1 => rd (sF 0 h x0 0 (.int (v1 + (1 : Int32)))) fun h => rd (gR 0 h x0 1) fun v2 => rd (gI 0 h x0 2) fun v3 => rd (isC 0 h x0) fun _ => bd (f_Jx4a65c_add_72be8 G x0 x1 v2 v3 h) fun _ h => z1 (1 : Int32) (some ((1 : Int32), h))
abbrev rm_X6_init : Room := { frames := 7, cells := 9, slots := 69, locals := 191 }
noncomputable def f_X6_init (G : GE) (x0 : Nat) (h : PH) : Option (Unit × PH) :=
  nw h (.inr (6, [.int 0, .int 0, .int 0, .int 0])) fun q1 h => bd (f_X5_init G q1 (0 : Int32) (5 : Int32) (0 : Int32) h) fun _ h => rd (sF 7 h x0 0 (.ref q1)) fun h => nw h (.inr (0, [.int 0, .null, .int 0])) fun q2 h => bd (f_Jx4a65c_init_da8c8 G q2 h) fun _ h => rd (sF 7 h x0 1 (.ref q2)) fun h => nw h (.inr (0, [.int 0, .null, .int 0])) fun q3 h => bd (f_Jx4a65c_init_da8c8 G q3 h) fun _ h => rd (sF 7 h x0 2 (.ref q3)) fun h => nw h (.inr (0, [.int 0, .null, .int 0])) fun q4 h => bd (f_Jx4a65c_init_da8c8 G q4 h) fun _ h => rd (sF 7 h x0 3 (.ref q4)) fun h => nw h (.inr (4, [.null])) fun q5 h => bd (f_X3_init G q5 h) fun _ h => rd (sF 7 h x0 4 (.ref q5)) fun h => nw h (.inr (4, [.null])) fun q6 h => bd (f_X3_init G q6 h) fun _ h => rd (sF 7 h x0 5 (.ref q6)) fun h => rd (gR 7 h x0 1) fun v7 => rd (gR 7 h x0 0) fun v8 => rd (isC 0 h v7) fun _ => bd (f_Jx4a65c_add_9ea2d G v7 v8 h) fun v9 h => some ((), h)
abbrev rm_X6_isDirection : Room := { frames := 0, cells := 0, slots := 0, locals := 0 }
noncomputable def f_X6_isDirection_b15 (G : GE) (t0 : Int32) (h : PH) : Option (Int32 × PH) :=
  z1 t0 (some (t0, h))
noncomputable def f_X6_isDirection_b14 (G : GE)  (h : PH) : Option (Int32 × PH) :=
  f_X6_isDirection_b15 G (0 : Int32) h
noncomputable def f_X6_isDirection (G : GE) (x0 : Int32) (h : PH) : Option (Int32 × PH) :=
  (if x0 < 0 then (f_X6_isDirection_b14 G  h) else ((if (16 : Int32) ≤ x0 then (f_X6_isDirection_b14 G  h) else (f_X6_isDirection_b15 G (1 : Int32) h))))
abbrev rm_X6_isWithin : Room := { frames := 0, cells := 0, slots := 0, locals := 0 }
noncomputable def f_X6_isWithin_b15 (G : GE) (t0 : Int32) (h : PH) : Option (Int32 × PH) :=
  z1 t0 (some (t0, h))
noncomputable def f_X6_isWithin_b14 (G : GE)  (h : PH) : Option (Int32 × PH) :=
  f_X6_isWithin_b15 G (0 : Int32) h
noncomputable def f_X6_isWithin (G : GE) (x0 : Int32) (x1 : Int32) (x2 : Int32) (h : PH) : Option (Int32 × PH) :=
  (if x0 < x1 then (f_X6_isWithin_b14 G  h) else ((if x2 < x0 then (f_X6_isWithin_b14 G  h) else (f_X6_isWithin_b15 G (1 : Int32) h))))
abbrev rm_Jx4a65c_clear_da8c8 : Room := { frames := 0, cells := 0, slots := 0, locals := 0 }
noncomputable def f_Jx4a65c_clear_da8c8_b27_body (G : GE) (k27 : Nat → Int32 → Int32 → PH → Option (Unit × PH)) (x1 : Nat) (x2 : Int32) (x3 : Int32) (h : PH) : Option (Unit × PH) :=
  (if x2 ≤ x3 then (some ((), h)) else (rd (aRs h x1 x3 none) fun h => k27 x1 x2 (x3 + (1 : Int32)) h))
noncomputable def f_Jx4a65c_clear_da8c8_b27 (G : GE) (n : Nat) : Nat → Int32 → Int32 → PH → Option (Unit × PH) := lp (fun _ _ _ _ => none) (f_Jx4a65c_clear_da8c8_b27_body G) n
noncomputable def f_Jx4a65c_clear_da8c8 (G : GE) (x0 : Nat) (h : PH) : Option (Unit × PH) :=
  rd (gI 0 h x0 0) fun v1 => rd (sF 0 h x0 0 (.int (v1 + (1 : Int32)))) fun h => rd (gR 0 h x0 1) fun v2 => rd (gI 0 h x0 2) fun v3 => rd (sF 0 h x0 2 (.int (0 : Int32))) fun h => f_Jx4a65c_clear_da8c8_b27 G LF v2 v3 (0 : Int32) h
abbrev rm_X6_beginWind : Room := { frames := 7, cells := 3, slots := 58, locals := 191 }
noncomputable def f_X6_beginWind_b17 (G : GE)  (h : PH) : Option ((Sum Int32 String) × PH) :=
  some (Sum.inr "java/lang/IllegalArgumentException", h)
noncomputable def f_X6_beginWind (G : GE) (x0 : Nat) (x1 : Int32) (x2 : Int32) (x3 : Int32) (h : PH) : Option ((Sum Int32 String) × PH) :=
  bd (f_X6_isDirection G x1 h) fun v1 h => (if v1 = 0 then (f_X6_beginWind_b17 G  h) else (bd (f_X6_isWithin G x2 (0 : Int32) (9 : Int32) h) fun v2 h => (if v2 = 0 then (f_X6_beginWind_b17 G  h) else (rd (gR 7 h x0 1) fun v3 => rd (isC 0 h v3) fun _ => bd (f_Jx4a65c_size_8abf5 G v3 h) fun v4 h => rd (gR 7 h x0 1) fun v5 => rd (isC 0 h v5) fun _ => bd (f_Jx4a65c_clear_da8c8 G v5 h) fun _ h => rd (gR 7 h x0 1) fun v6 => nw h (.inr (6, [.int 0, .int 0, .int 0, .int 0])) fun q7 h => bd (f_X5_init G q7 x1 x2 x3 h) fun _ h => rd (isC 0 h v6) fun _ => bd (f_Jx4a65c_add_9ea2d G v6 q7 h) fun v8 h => some (Sum.inl v4, h)))))
abbrev rm_X6_addWind : Room := { frames := 7, cells := 3, slots := 58, locals := 191 }
noncomputable def f_X6_addWind_b17 (G : GE)  (h : PH) : Option ((Sum Int32 String) × PH) :=
  some (Sum.inr "java/lang/IllegalArgumentException", h)
noncomputable def f_X6_addWind (G : GE) (x0 : Nat) (x1 : Int32) (x2 : Int32) (x3 : Int32) (h : PH) : Option ((Sum Int32 String) × PH) :=
  bd (f_X6_isDirection G x1 h) fun v1 h => (if v1 = 0 then (f_X6_addWind_b17 G  h) else (bd (f_X6_isWithin G x2 (0 : Int32) (9 : Int32) h) fun v2 h => (if v2 = 0 then (f_X6_addWind_b17 G  h) else (rd (gR 7 h x0 1) fun v3 => rd (isC 0 h v3) fun _ => bd (f_Jx4a65c_size_8abf5 G v3 h) fun v4 h => (if v4 < (24 : Int32) then (rd (gR 7 h x0 1) fun v5 => nw h (.inr (6, [.int 0, .int 0, .int 0, .int 0])) fun q6 h => bd (f_X5_init G q6 x1 x2 x3 h) fun _ h => rd (isC 0 h v5) fun _ => bd (f_Jx4a65c_add_9ea2d G v5 q6 h) fun v7 h => rd (gR 7 h x0 1) fun v8 => rd (isC 0 h v8) fun _ => bd (f_Jx4a65c_size_8abf5 G v8 h) fun v9 h => some (Sum.inl v9, h)) else (some (Sum.inr "java/lang/IllegalStateException", h)))))))
abbrev rm_X6_windAt : Room := { frames := 3, cells := 0, slots := 0, locals := 64 }
noncomputable def f_X6_windAt_b17 (G : GE) (x0 : Nat) (h : PH) : Option (Nat × PH) :=
  rd (gR 7 h x0 0) fun v5 => some (v5, h)
noncomputable def f_X6_windAt (G : GE) (x0 : Nat) (x1 : Int32) (h : PH) : Option (Nat × PH) :=
  rd (gR 7 h x0 1) fun v1 => rd (isC 0 h v1) fun _ => bd (f_Jx4a65c_size_8abf5 G v1 h) fun v2 h => (if v2 < (1 : Int32) then (f_X6_windAt_b17 G x0 h) else ((if 0 ≤ x1 then (rd (gR 7 h x0 1) fun v3 => nz v2 <| rd (isC 0 h v3) fun _ => bd (f_Jx4a65c_get_915e3 G v3 (x1 - x1 / v2 * v2) h) fun v4 h => rd (isC 6 h v4) fun _ => some (v4, h)) else (f_X6_windAt_b17 G x0 h))))
abbrev rm_X6_wind : Room := { frames := 6, cells := 1, slots := 6, locals := 90 }
noncomputable def f_X6_wind (G : GE) (x0 : Nat) (x1 : Int32) (x2 : Int32) (h : PH) : Option ((Sum Int32 String) × PH) :=
  (if 0 ≤ x1 then (bd (f_X6_isWithin G x2 (0 : Int32) (2 : Int32) h) fun v1 h => (if v1 = 0 then (some (Sum.inr "java/lang/IndexOutOfBoundsException", h)) else (rd (isC 7 h x0) fun _ => bd (f_X6_windAt G x0 x1 h) fun v2 h => rd (isC 6 h v2) fun _ => bd (f_X5_tell G v2 x2 h) fun v3 h => some (Sum.inl v3, h)))) else (some (Sum.inr "java/lang/IllegalArgumentException", h)))
abbrev rm_X6_setUp : Room := { frames := 7, cells := 7, slots := 129, locals := 191 }
noncomputable def f_X6_setUp_b20 (G : GE)  (h : PH) : Option ((Sum Int32 String) × PH) :=
  some (Sum.inr "java/lang/IllegalArgumentException", h)
noncomputable def f_X6_setUp_b70 (G : GE)  (h : PH) : Option ((Sum Int32 String) × PH) :=
  some (Sum.inr "java/lang/IllegalArgumentException", h)
noncomputable def f_X6_setUp_b107 (G : GE)  (h : PH) : Option ((Sum Int32 String) × PH) :=
  some (Sum.inr "java/lang/IllegalStateException", h)
noncomputable def f_X6_setUp (G : GE) (x0 : Nat) (x1 : Int32) (x2 : Int32) (x3 : Int32) (x4 : Int32) (x5 : Int32) (x6 : Int32) (h : PH) : Option ((Sum Int32 String) × PH) :=
  bd (f_X6_isWithin G x1 (0 : Int32) (11 : Int32) h) fun v1 h => (if v1 = 0 then (f_X6_setUp_b20 G  h) else (bd (f_X6_isWithin G x2 (0 : Int32) (11 : Int32) h) fun v2 h => (if v2 = 0 then (f_X6_setUp_b20 G  h) else (bd (f_X6_isWithin G x3 (1 : Int32) (9 : Int32) h) fun v3 h => (if v3 = 0 then (f_X6_setUp_b70 G  h) else (bd (f_X6_isWithin G x4 (1 : Int32) (9 : Int32) h) fun v4 h => (if v4 = 0 then (f_X6_setUp_b70 G  h) else (bd (f_X6_isWithin G x5 (0 : Int32) (9 : Int32) h) fun v5 h => (if v5 = 0 then (f_X6_setUp_b70 G  h) else (bd (f_X6_isDirection G x6 h) fun v6 h => (if v6 = 0 then (f_X6_setUp_b70 G  h) else (rd (gR 7 h x0 4) fun v7 => rd (isC 4 h v7) fun _ => bd (f_X3_hasOneAt G v7 x1 x2 h) fun v8 h => (if v8 = 0 then (rd (gR 7 h x0 4) fun v9 => rd (gR 4 h v9 0) fun v10 => rd (isC 0 h v10) fun _ => bd (f_Jx4a65c_size_8abf5 G v10 h) fun v11 h => (if v11 < (16 : Int32) then (nw h (.inr (2, [.int 0, .int 0, .int 0, .int 0, .null])) fun q12 h => bd (f_X1_init G q12 x1 x2 x3 x4 h) fun _ h => rd (gR 7 h x0 4) fun v13 => rd (isC 4 h v13) fun _ => bd (f_X3_shelter G v13 q12 h) fun _ h => rd (gR 7 h x0 4) fun v14 => rd (gR 4 h v14 0) fun v15 => nw h (.inr (5, [.null, .int 0, .int 0, .int 0, .int 0, .int 0, .int 0])) fun q16 h => bd (f_X4_init G q16 q12 x5 x6 h) fun _ h => rd (isC 0 h v15) fun _ => bd (f_Jx4a65c_add_9ea2d G v15 q16 h) fun v17 h => rd (gR 7 h x0 5) fun v18 => rd (gR 4 h v18 0) fun v19 => nw h (.inr (5, [.null, .int 0, .int 0, .int 0, .int 0, .int 0, .int 0])) fun q20 h => bd (f_X4_init G q20 q12 x5 x6 h) fun _ h => rd (isC 0 h v19) fun _ => bd (f_Jx4a65c_add_9ea2d G v19 q20 h) fun v21 h => rd (gR 7 h x0 4) fun v22 => rd (gR 4 h v22 0) fun v23 => rd (isC 0 h v23) fun _ => bd (f_Jx4a65c_size_8abf5 G v23 h) fun v24 h => some (Sum.inl (v24 - (1 : Int32)), h)) else (f_X6_setUp_b107 G  h))) else (f_X6_setUp_b107 G  h))))))))))))))
abbrev rm_X6_isVane : Room := { frames := 1, cells := 0, slots := 0, locals := 20 }
noncomputable def f_X6_isVane_b23 (G : GE) (t0 : Int32) (h : PH) : Option (Int32 × PH) :=
  z1 t0 (some (t0, h))
noncomputable def f_X6_isVane_b22 (G : GE)  (h : PH) : Option (Int32 × PH) :=
  f_X6_isVane_b23 G (0 : Int32) h
noncomputable def f_X6_isVane (G : GE) (x0 : Nat) (x1 : Int32) (h : PH) : Option (Int32 × PH) :=
  (if x1 < 0 then (f_X6_isVane_b22 G  h) else (rd (gR 7 h x0 4) fun v1 => rd (gR 4 h v1 0) fun v2 => rd (isC 0 h v2) fun _ => bd (f_Jx4a65c_size_8abf5 G v2 h) fun v3 h => (if v3 ≤ x1 then (f_X6_isVane_b22 G  h) else (f_X6_isVane_b23 G (1 : Int32) h))))
abbrev rm_X6_oil : Room := { frames := 6, cells := 1, slots := 6, locals := 90 }
noncomputable def f_X6_oil (G : GE) (x0 : Nat) (x1 : Int32) (h : PH) : Option ((Sum Int32 String) × PH) :=
  rd (isC 7 h x0) fun _ => bd (f_X6_isVane G x0 x1 h) fun v1 h => (if v1 = 0 then (some (Sum.inr "java/lang/IndexOutOfBoundsException", h)) else (rd (gR 7 h x0 4) fun v2 => rd (gR 4 h v2 0) fun v3 => rd (isC 0 h v3) fun _ => bd (f_Jx4a65c_get_915e3 G v3 x1 h) fun v4 h => rd (isC 5 h v4) fun _ => rd (gI 5 h v4 2) fun v5 => rd (isC 5 h v4) fun _ => bd (f_X4_takeOil G v4 h) fun _ h => some (Sum.inl v5, h)))
abbrev rm_X6_turn : Room := { frames := 6, cells := 1, slots := 6, locals := 90 }
noncomputable def f_X6_turn (G : GE) (x0 : Nat) (x1 : Int32) (x2 : Int32) (h : PH) : Option ((Sum Int32 String) × PH) :=
  rd (isC 7 h x0) fun _ => bd (f_X6_isVane G x0 x1 h) fun v1 h => (if v1 = 0 then (some (Sum.inr "java/lang/IndexOutOfBoundsException", h)) else (bd (f_X6_isDirection G x2 h) fun v2 h => (if v2 = 0 then (some (Sum.inr "java/lang/IllegalArgumentException", h)) else (rd (gR 7 h x0 4) fun v3 => rd (gR 4 h v3 0) fun v4 => rd (isC 0 h v4) fun _ => bd (f_Jx4a65c_get_915e3 G v4 x1 h) fun v5 h => rd (isC 5 h v5) fun _ => rd (gI 5 h v5 5) fun v6 => (if v6 ≤ 0 then (rd (gI 5 h v5 3) fun v7 => rd (sF 5 h v5 3 (.int x2)) fun h => rd (sF 5 h v5 4 (.int (0 : Int32))) fun h => some (Sum.inl v7, h)) else (some (Sum.inr "java/lang/IllegalStateException", h)))))))
abbrev rm_X6_vane : Room := { frames := 6, cells := 1, slots := 6, locals := 90 }
noncomputable def f_X6_vane (G : GE) (x0 : Nat) (x1 : Int32) (x2 : Int32) (h : PH) : Option ((Sum Int32 String) × PH) :=
  rd (isC 7 h x0) fun _ => bd (f_X6_isVane G x0 x1 h) fun v1 h => (if v1 = 0 then (some (Sum.inr "java/lang/IndexOutOfBoundsException", h)) else (bd (f_X6_isWithin G x2 (0 : Int32) (11 : Int32) h) fun v2 h => (if v2 = 0 then (some (Sum.inr "java/lang/IndexOutOfBoundsException", h)) else (rd (gR 7 h x0 4) fun v3 => rd (gR 4 h v3 0) fun v4 => rd (isC 0 h v4) fun _ => bd (f_Jx4a65c_get_915e3 G v4 x1 h) fun v5 h => rd (isC 5 h v5) fun _ => rd (gI 7 h x0 6) fun v6 => rd (isC 7 h x0) fun _ => bd (f_X6_windAt G x0 v6 h) fun v7 h => rd (isC 5 h v5) fun _ => bd (f_X4_tell G v5 x2 v7 h) fun v8 h => some (Sum.inl v8, h)))))
abbrev rm_X6_difference : Room := { frames := 6, cells := 1, slots := 6, locals := 90 }
noncomputable def f_X6_difference_b14 (G : GE)  (h : PH) : Option ((Sum Int32 String) × PH) :=
  some (Sum.inr "java/lang/IllegalArgumentException", h)
noncomputable def f_X6_difference (G : GE) (x0 : Nat) (x1 : Int32) (x2 : Int32) (h : PH) : Option ((Sum Int32 String) × PH) :=
  bd (f_X6_isDirection G x1 h) fun v1 h => (if v1 = 0 then (f_X6_difference_b14 G  h) else (bd (f_X6_isDirection G x2 h) fun v2 h => (if v2 = 0 then (f_X6_difference_b14 G  h) else (bd (f_X6_steps G x1 x2 h) fun v3 h => some (Sum.inl v3, h)))))
abbrev rm_X6_move : Room := { frames := 7, cells := 3, slots := 61, locals := 191 }
noncomputable def f_X6_move_b37 (G : GE)  (h : PH) : Option ((Sum Int32 String) × PH) :=
  some (Sum.inr "java/lang/IllegalArgumentException", h)
noncomputable def f_X6_move (G : GE) (x0 : Nat) (x1 : Int32) (x2 : Int32) (x3 : Int32) (x4 : Int32) (h : PH) : Option ((Sum Int32 String) × PH) :=
  bd (f_X6_isDirection G x1 h) fun v1 h => (if v1 = 0 then (f_X6_move_b37 G  h) else (bd (f_X6_isWithin G x2 (0 : Int32) (7 : Int32) h) fun v2 h => (if v2 = 0 then (f_X6_move_b37 G  h) else (bd (f_X6_isWithin G x3 (0 : Int32) (99 : Int32) h) fun v3 h => (if v3 = 0 then (f_X6_move_b37 G  h) else (bd (f_X6_isWithin G x4 (0 : Int32) (3 : Int32) h) fun v4 h => (if v4 = 0 then (f_X6_move_b37 G  h) else (rd (gR 7 h x0 2) fun v5 => rd (isC 0 h v5) fun _ => bd (f_Jx4a65c_size_8abf5 G v5 h) fun v6 h => (if v6 < (12 : Int32) then (rd (gR 7 h x0 2) fun v7 => rd (isC 0 h v7) fun _ => bd (f_Jx4a65c_size_8abf5 G v7 h) fun v8 h => rd (gR 7 h x0 2) fun v9 => nw h (.inr (3, [.int 0, .int 0, .int 0, .int 0, .int 0, .int 0, .int 0])) fun q10 h => bd (f_X2_init G q10 v8 x1 x2 x3 x4 h) fun _ h => rd (isC 0 h v9) fun _ => bd (f_Jx4a65c_add_9ea2d G v9 q10 h) fun v11 h => some (Sum.inl v8, h)) else (some (Sum.inr "java/lang/IllegalStateException", h)))))))))))
abbrev rm_X6_isMotion : Room := { frames := 1, cells := 0, slots := 0, locals := 20 }
noncomputable def f_X6_isMotion_b20 (G : GE) (t0 : Int32) (h : PH) : Option (Int32 × PH) :=
  z1 t0 (some (t0, h))
noncomputable def f_X6_isMotion_b19 (G : GE)  (h : PH) : Option (Int32 × PH) :=
  f_X6_isMotion_b20 G (0 : Int32) h
noncomputable def f_X6_isMotion (G : GE) (x0 : Nat) (x1 : Int32) (h : PH) : Option (Int32 × PH) :=
  (if x1 < 0 then (f_X6_isMotion_b19 G  h) else (rd (gR 7 h x0 2) fun v1 => rd (isC 0 h v1) fun _ => bd (f_Jx4a65c_size_8abf5 G v1 h) fun v2 h => (if v2 ≤ x1 then (f_X6_isMotion_b19 G  h) else (f_X6_isMotion_b20 G (1 : Int32) h))))
abbrev rm_X6_put : Room := { frames := 7, cells := 3, slots := 56, locals := 191 }
noncomputable def f_X6_put (G : GE) (x0 : Nat) (x1 : Int32) (x2 : Int32) (h : PH) : Option ((Sum Int32 String) × PH) :=
  rd (isC 7 h x0) fun _ => bd (f_X6_isMotion G x0 x1 h) fun v1 h => (if v1 = 0 then (some (Sum.inr "java/lang/IndexOutOfBoundsException", h)) else (rd (gI 7 h x0 6) fun v2 => bd (f_X6_isWithin G x2 v2 (2000 : Int32) h) fun v3 h => (if v3 = 0 then (some (Sum.inr "java/lang/IllegalArgumentException", h)) else (rd (gR 7 h x0 3) fun v4 => rd (isC 0 h v4) fun _ => bd (f_Jx4a65c_size_8abf5 G v4 h) fun v5 h => (if v5 < (20 : Int32) then (rd (gR 7 h x0 3) fun v6 => nw h (.inr (1, [.null, .int 0])) fun q7 h => rd (gR 7 h x0 2) fun v8 => rd (isC 0 h v8) fun _ => bd (f_Jx4a65c_get_915e3 G v8 x1 h) fun v9 h => rd (isC 3 h v9) fun _ => bd (f_X0_init G q7 v9 x2 h) fun _ h => rd (isC 0 h v6) fun _ => bd (f_Jx4a65c_add_9ea2d G v6 q7 h) fun v10 h => rd (gR 7 h x0 3) fun v11 => rd (isC 0 h v11) fun _ => bd (f_Jx4a65c_size_8abf5 G v11 h) fun v12 h => some (Sum.inl v12, h)) else (some (Sum.inr "java/lang/IllegalStateException", h)))))))
abbrev rm_X6_motion : Room := { frames := 6, cells := 1, slots := 6, locals := 111 }
noncomputable def f_X6_motion (G : GE) (x0 : Nat) (x1 : Int32) (x2 : Int32) (h : PH) : Option ((Sum Int32 String) × PH) :=
  rd (isC 7 h x0) fun _ => bd (f_X6_isMotion G x0 x1 h) fun v1 h => (if v1 = 0 then (some (Sum.inr "java/lang/IndexOutOfBoundsException", h)) else (bd (f_X6_isWithin G x2 (0 : Int32) (8 : Int32) h) fun v2 h => (if v2 = 0 then (some (Sum.inr "java/lang/IndexOutOfBoundsException", h)) else (rd (gR 7 h x0 2) fun v3 => rd (isC 0 h v3) fun _ => bd (f_Jx4a65c_get_915e3 G v3 x1 h) fun v4 h => rd (isC 3 h v4) fun _ => rd (gR 7 h x0 4) fun v5 => rd (isC 3 h v4) fun _ => bd (f_X2_tell G v4 x2 v5 h) fun v6 h => some (Sum.inl v6, h)))))
abbrev rm_X6_stand : Room := { frames := 6, cells := 1, slots := 6, locals := 90 }
noncomputable def f_X6_stand (G : GE) (x0 : Nat) (x1 : Int32) (x2 : Int32) (h : PH) : Option ((Sum Int32 String) × PH) :=
  rd (isC 7 h x0) fun _ => bd (f_X6_isMotion G x0 x1 h) fun v1 h => (if v1 = 0 then (some (Sum.inr "java/lang/IndexOutOfBoundsException", h)) else (rd (isC 7 h x0) fun _ => bd (f_X6_isVane G x0 x2 h) fun v2 h => (if v2 = 0 then (some (Sum.inr "java/lang/IndexOutOfBoundsException", h)) else (rd (gR 7 h x0 2) fun v3 => rd (isC 0 h v3) fun _ => bd (f_Jx4a65c_get_915e3 G v3 x1 h) fun v4 h => rd (isC 3 h v4) fun _ => rd (gR 7 h x0 4) fun v5 => rd (gR 4 h v5 0) fun v6 => rd (isC 0 h v6) fun _ => bd (f_Jx4a65c_get_915e3 G v6 x2 h) fun v7 h => rd (isC 5 h v7) fun _ => rd (isC 3 h v4) fun _ => bd (f_X2_sideOf G v4 v7 h) fun v8 h => some (Sum.inl v8, h)))))
abbrev rm_X6_voteAndRain : Room := { frames := 4, cells := 0, slots := 0, locals := 89 }
noncomputable def f_X6_voteAndRain_b107 (G : GE) (x4 : Int32) (h : PH) : Option (Int32 × PH) :=
  some (x4, h)
noncomputable def f_X6_voteAndRain_b86 (G : GE) (k6 : Nat → Nat → Int32 → Int32 → Int32 → Int32 → PH → Option (Int32 × PH)) (x0 : Nat) (x1 : Nat) (x2 : Int32) (x3 : Int32) (x4 : Int32) (x5 : Int32) (h : PH) : Option (Int32 × PH) :=
  k6 x0 x1 x2 x3 x4 (x5 + (1 : Int32)) h
noncomputable def f_X6_voteAndRain_b72 (G : GE) (k6 : Nat → Nat → Int32 → Int32 → Int32 → Int32 → PH → Option (Int32 × PH)) (x0 : Nat) (x1 : Nat) (x2 : Int32) (x3 : Int32) (x4 : Int32) (x5 : Int32) (x6 : Nat) (x7 : Int32) (h : PH) : Option (Int32 × PH) :=
  (if x3 = 0 then (f_X6_voteAndRain_b86 G k6 x0 x1 x2 x3 x4 x5 h) else (rd (gR 1 h x6 0) fun v11 => rd (isC 3 h v11) fun _ => bd (f_X2_noteVoting G v11 x7 h) fun _ h => f_X6_voteAndRain_b86 G k6 x0 x1 x2 x3 x4 x5 h))
noncomputable def f_X6_voteAndRain_b6_body (G : GE) (k6 : Nat → Nat → Int32 → Int32 → Int32 → Int32 → PH → Option (Int32 × PH)) (x0 : Nat) (x1 : Nat) (x2 : Int32) (x3 : Int32) (x4 : Int32) (x5 : Int32) (h : PH) : Option (Int32 × PH) :=
  rd (gR 7 h x0 3) fun v1 => rd (isC 0 h v1) fun _ => bd (f_Jx4a65c_size_8abf5 G v1 h) fun v2 h => (if v2 ≤ x5 then (rd (isC 7 h x0) fun _ => bd (f_X6_windAt G x0 x2 h) fun v3 h => rd (gI 6 h v3 2) fun v4 => (if v4 = 0 then (f_X6_voteAndRain_b107 G x4 h) else (rd (isC 4 h x1) fun _ => bd (f_X3_rainOnAll G x1 h) fun _ h => f_X6_voteAndRain_b107 G x4 h))) else (rd (gR 7 h x0 3) fun v5 => rd (isC 0 h v5) fun _ => bd (f_Jx4a65c_get_915e3 G v5 x5 h) fun v6 h => rd (isC 1 h v6) fun _ => rd (gI 1 h v6 1) fun v7 => (if v7 = x2 then (rd (gR 1 h v6 0) fun v8 => rd (isC 4 h x1) fun _ => bd (f_X3_carries G x1 v8 h) fun v9 h => (if v9 = 0 then (f_X6_voteAndRain_b72 G k6 x0 x1 x2 x3 x4 x5 v6 v9 h) else (rd (gR 1 h v6 0) fun v10 => rd (isC 4 h x1) fun _ => bd (f_X3_giveEffect G x1 v10 h) fun _ h => f_X6_voteAndRain_b72 G k6 x0 x1 x2 x3 (x4 + (1 : Int32)) x5 v6 v9 h))) else (f_X6_voteAndRain_b86 G k6 x0 x1 x2 x3 x4 x5 h))))
noncomputable def f_X6_voteAndRain_b6 (G : GE) (n : Nat) : Nat → Nat → Int32 → Int32 → Int32 → Int32 → PH → Option (Int32 × PH) := lp (fun _ _ _ _ _ _ _ => none) (f_X6_voteAndRain_b6_body G) n
noncomputable def f_X6_voteAndRain (G : GE) (x0 : Nat) (x1 : Nat) (x2 : Int32) (x3 : Int32) (h : PH) : Option (Int32 × PH) :=
  f_X6_voteAndRain_b6 G LF x0 x1 x2 x3 (0 : Int32) (0 : Int32) h
abbrev rm_Jx4a65c_fastRemove_b59b0 : Room := { frames := 1, cells := 0, slots := 0, locals := 60 }
noncomputable def f_Jx4a65c_fastRemove_b59b0_b34 (G : GE) (x0 : Nat) (x1 : Nat) (x3 : Int32) (h : PH) : Option (Unit × PH) :=
  rd (sF 0 h x0 2 (.int x3)) fun h => rd (aRs h x1 x3 none) fun h => some ((), h)
noncomputable def f_Jx4a65c_fastRemove_b59b0 (G : GE) (x0 : Nat) (x1 : Nat) (x2 : Int32) (h : PH) : Option (Unit × PH) :=
  rd (gI 0 h x0 0) fun v1 => rd (sF 0 h x0 0 (.int (v1 + (1 : Int32)))) fun h => rd (gI 0 h x0 2) fun v2 => (if (v2 - (1 : Int32)) ≤ x2 then (f_Jx4a65c_fastRemove_b59b0_b34 G x0 x1 (v2 - (1 : Int32)) h) else (rd (cpR h x1 (x2 + (1 : Int32)) x1 x2 ((v2 - (1 : Int32)) - x2)) fun h => f_Jx4a65c_fastRemove_b59b0_b34 G x0 x1 (v2 - (1 : Int32)) h))
abbrev rm_Jx4a65c_remove_915e3 : Room := { frames := 2, cells := 0, slots := 0, locals := 83 }
noncomputable def f_Jx4a65c_remove_915e3 (G : GE) (x0 : Nat) (x1 : Int32) (h : PH) : Option (Nat × PH) :=
  rd (gI 0 h x0 2) fun v1 => bd (f_J15_checkIndex_7cf53 G x1 v1 h) fun v2 h => rd (gR 0 h x0 1) fun v3 => rd (aR h v3 x1) fun v4 => rd (isC 0 h x0) fun _ => bd (f_Jx4a65c_fastRemove_b59b0 G x0 v3 x1 h) fun _ h => some (v4, h)
abbrev rm_X6_dropPastEntries : Room := { frames := 3, cells := 0, slots := 0, locals := 106 }
noncomputable def f_X6_dropPastEntries_b44 (G : GE) (k10 : Nat → Int32 → PH → Option (Unit × PH)) (x0 : Nat) (x1 : Int32) (h : PH) : Option (Unit × PH) :=
  k10 x0 (x1 + (-1 : Int32)) h
noncomputable def f_X6_dropPastEntries_b10_body (G : GE) (k10 : Nat → Int32 → PH → Option (Unit × PH)) (x0 : Nat) (x1 : Int32) (h : PH) : Option (Unit × PH) :=
  (if x1 < 0 then (some ((), h)) else (rd (gR 7 h x0 3) fun v3 => rd (isC 0 h v3) fun _ => bd (f_Jx4a65c_get_915e3 G v3 x1 h) fun v4 h => rd (isC 1 h v4) fun _ => rd (gI 1 h v4 1) fun v5 => rd (gI 7 h x0 6) fun v6 => (if v6 ≤ v5 then (f_X6_dropPastEntries_b44 G k10 x0 x1 h) else (rd (gR 7 h x0 3) fun v7 => rd (isC 0 h v7) fun _ => bd (f_Jx4a65c_remove_915e3 G v7 x1 h) fun v8 h => f_X6_dropPastEntries_b44 G k10 x0 x1 h))))
noncomputable def f_X6_dropPastEntries_b10 (G : GE) (n : Nat) : Nat → Int32 → PH → Option (Unit × PH) := lp (fun _ _ _ => none) (f_X6_dropPastEntries_b10_body G) n
noncomputable def f_X6_dropPastEntries (G : GE) (x0 : Nat) (h : PH) : Option (Unit × PH) :=
  rd (gR 7 h x0 3) fun v1 => rd (isC 0 h v1) fun _ => bd (f_Jx4a65c_size_8abf5 G v1 h) fun v2 h => f_X6_dropPastEntries_b10 G LF x0 (v2 - (1 : Int32)) h
abbrev rm_X6_pass : Room := { frames := 6, cells := 1, slots := 6, locals := 127 }
noncomputable def f_X6_pass_b46_body (G : GE) (k46 : Nat → Int32 → Int32 → Int32 → PH → Option ((Sum Int32 String) × PH)) (x0 : Nat) (x1 : Int32) (x2 : Int32) (x3 : Int32) (h : PH) : Option ((Sum Int32 String) × PH) :=
  (if x1 ≤ x3 then (rd (gI 7 h x0 7) fun v3 => rd (sF 7 h x0 7 (.int (v3 + x2))) fun h => rd (isC 7 h x0) fun _ => bd (f_X6_dropPastEntries G x0 h) fun _ h => some (Sum.inl x2, h)) else (rd (gR 7 h x0 4) fun v4 => rd (gI 7 h x0 6) fun v5 => rd (isC 7 h x0) fun _ => bd (f_X6_windAt G x0 v5 h) fun v6 h => rd (isC 4 h v4) fun _ => bd (f_X3_blowOnAll G v4 v6 h) fun _ h => rd (gR 7 h x0 4) fun v7 => rd (gI 7 h x0 6) fun v8 => rd (isC 7 h x0) fun _ => bd (f_X6_voteAndRain G x0 v7 v8 (1 : Int32) h) fun v9 h => rd (gI 7 h x0 6) fun v10 => rd (sF 7 h x0 6 (.int (v10 + (1 : Int32)))) fun h => k46 x0 x1 (x2 + v9) (x3 + (1 : Int32)) h))
noncomputable def f_X6_pass_b46 (G : GE) (n : Nat) : Nat → Int32 → Int32 → Int32 → PH → Option ((Sum Int32 String) × PH) := lp (fun _ _ _ _ _ => none) (f_X6_pass_b46_body G) n
noncomputable def f_X6_pass (G : GE) (x0 : Nat) (x1 : Int32) (h : PH) : Option ((Sum Int32 String) × PH) :=
  bd (f_X6_isWithin G x1 (1 : Int32) (100 : Int32) h) fun v1 h => (if v1 = 0 then (some (Sum.inr "java/lang/IllegalArgumentException", h)) else (rd (gI 7 h x0 6) fun v2 => (if (v2 + x1) ≤ (2000 : Int32) then (f_X6_pass_b46 G LF x0 x1 (0 : Int32) (0 : Int32) h) else (some (Sum.inr "java/lang/IllegalStateException", h)))))
abbrev rm_X6_tally : Room := { frames := 5, cells := 0, slots := 0, locals := 107 }
noncomputable def f_X6_tally (G : GE) (x0 : Nat) (x1 : Int32) (h : PH) : Option (Int32 × PH) :=
  if x1 = (0 : Int32) then (rd (gI 7 h x0 6) fun v2 => some (v2, h)) else (if x1 = (1 : Int32) then (rd (gR 7 h x0 4) fun v4 => rd (gR 4 h v4 0) fun v5 => rd (isC 0 h v5) fun _ => bd (f_Jx4a65c_size_8abf5 G v5 h) fun v6 h => some (v6, h)) else (if x1 = (2 : Int32) then (rd (gR 7 h x0 2) fun v8 => rd (isC 0 h v8) fun _ => bd (f_Jx4a65c_size_8abf5 G v8 h) fun v9 h => some (v9, h)) else (if x1 = (3 : Int32) then (rd (gR 7 h x0 1) fun v11 => rd (isC 0 h v11) fun _ => bd (f_Jx4a65c_size_8abf5 G v11 h) fun v12 h => some (v12, h)) else (if x1 = (4 : Int32) then (rd (gR 7 h x0 3) fun v14 => rd (isC 0 h v14) fun _ => bd (f_Jx4a65c_size_8abf5 G v14 h) fun v15 h => some (v15, h)) else (if x1 = (5 : Int32) then (rd (gR 7 h x0 4) fun v17 => rd (isC 4 h v17) fun _ => bd (f_X3_allVotes G v17 h) fun v18 h => some (v18, h)) else (if x1 = (6 : Int32) then (rd (gI 7 h x0 7) fun v20 => some (v20, h)) else (if x1 = (7 : Int32) then (rd (gR 7 h x0 4) fun v22 => rd (isC 4 h v22) fun _ => bd (f_X3_boundVanes G v22 h) fun v23 h => some (v23, h)) else (rd (gR 7 h x0 4) fun v24 => rd (gI 7 h x0 6) fun v25 => rd (isC 7 h x0) fun _ => bd (f_X6_windAt G x0 v25 h) fun v26 h => rd (isC 4 h v24) fun _ => bd (f_X3_stuckVanes G v24 v26 h) fun v27 h => some (v27, h)))))))))
abbrev rm_X6_count : Room := { frames := 6, cells := 1, slots := 6, locals := 128 }
noncomputable def f_X6_count (G : GE) (x0 : Nat) (x1 : Int32) (h : PH) : Option ((Sum Int32 String) × PH) :=
  bd (f_X6_isWithin G x1 (0 : Int32) (8 : Int32) h) fun v1 h => (if v1 = 0 then (some (Sum.inr "java/lang/IndexOutOfBoundsException", h)) else (rd (isC 7 h x0) fun _ => bd (f_X6_tally G x0 x1 h) fun v2 h => some (Sum.inl v2, h)))
abbrev rm_X6_party : Room := { frames := 6, cells := 1, slots := 6, locals := 90 }
noncomputable def f_X6_party_b65 (G : GE) (t0 : Int32) (h : PH) : Option ((Sum Int32 String) × PH) :=
  some (Sum.inl t0, h)
noncomputable def f_X6_party (G : GE) (x0 : Nat) (x1 : Int32) (x2 : Int32) (h : PH) : Option ((Sum Int32 String) × PH) :=
  bd (f_X6_isWithin G x1 (0 : Int32) (3 : Int32) h) fun v1 h => (if v1 = 0 then (some (Sum.inr "java/lang/IndexOutOfBoundsException", h)) else (bd (f_X6_isWithin G x2 (0 : Int32) (1 : Int32) h) fun v2 h => (if v2 = 0 then (some (Sum.inr "java/lang/IndexOutOfBoundsException", h)) else ((if x2 = 0 then (rd (gR 7 h x0 4) fun v5 => rd (isC 4 h v5) fun _ => bd (f_X3_vanesOf G v5 ((1 : Int32) <<< (x1 &&& 31)) h) fun v6 h => f_X6_party_b65 G v6 h) else (rd (gR 7 h x0 4) fun v3 => rd (isC 4 h v3) fun _ => bd (f_X3_votesOf G v3 ((1 : Int32) <<< (x1 &&& 31)) h) fun v4 h => f_X6_party_b65 G v4 h))))))
abbrev rm_J6_bitCount_0f7a4 : Room := { frames := 0, cells := 0, slots := 0, locals := 0 }
noncomputable def f_J6_bitCount_0f7a4 (G : GE) (x0 : Int32) (h : PH) : Option (Int32 × PH) :=
  some (((((((((x0 - ((((x0).toUInt32 >>> (((1 : Int32)).toUInt32 &&& Int32.toUInt32 31)).toInt32) &&& (1431655765 : Int32))) &&& (858993459 : Int32)) + (((((x0 - ((((x0).toUInt32 >>> (((1 : Int32)).toUInt32 &&& Int32.toUInt32 31)).toInt32) &&& (1431655765 : Int32)))).toUInt32 >>> (((2 : Int32)).toUInt32 &&& Int32.toUInt32 31)).toInt32) &&& (858993459 : Int32))) + ((((((x0 - ((((x0).toUInt32 >>> (((1 : Int32)).toUInt32 &&& Int32.toUInt32 31)).toInt32) &&& (1431655765 : Int32))) &&& (858993459 : Int32)) + (((((x0 - ((((x0).toUInt32 >>> (((1 : Int32)).toUInt32 &&& Int32.toUInt32 31)).toInt32) &&& (1431655765 : Int32)))).toUInt32 >>> (((2 : Int32)).toUInt32 &&& Int32.toUInt32 31)).toInt32) &&& (858993459 : Int32)))).toUInt32 >>> (((4 : Int32)).toUInt32 &&& Int32.toUInt32 31)).toInt32)) &&& (252645135 : Int32)) + ((((((((x0 - ((((x0).toUInt32 >>> (((1 : Int32)).toUInt32 &&& Int32.toUInt32 31)).toInt32) &&& (1431655765 : Int32))) &&& (858993459 : Int32)) + (((((x0 - ((((x0).toUInt32 >>> (((1 : Int32)).toUInt32 &&& Int32.toUInt32 31)).toInt32) &&& (1431655765 : Int32)))).toUInt32 >>> (((2 : Int32)).toUInt32 &&& Int32.toUInt32 31)).toInt32) &&& (858993459 : Int32))) + ((((((x0 - ((((x0).toUInt32 >>> (((1 : Int32)).toUInt32 &&& Int32.toUInt32 31)).toInt32) &&& (1431655765 : Int32))) &&& (858993459 : Int32)) + (((((x0 - ((((x0).toUInt32 >>> (((1 : Int32)).toUInt32 &&& Int32.toUInt32 31)).toInt32) &&& (1431655765 : Int32)))).toUInt32 >>> (((2 : Int32)).toUInt32 &&& Int32.toUInt32 31)).toInt32) &&& (858993459 : Int32)))).toUInt32 >>> (((4 : Int32)).toUInt32 &&& Int32.toUInt32 31)).toInt32)) &&& (252645135 : Int32))).toUInt32 >>> (((8 : Int32)).toUInt32 &&& Int32.toUInt32 31)).toInt32)) + (((((((((x0 - ((((x0).toUInt32 >>> (((1 : Int32)).toUInt32 &&& Int32.toUInt32 31)).toInt32) &&& (1431655765 : Int32))) &&& (858993459 : Int32)) + (((((x0 - ((((x0).toUInt32 >>> (((1 : Int32)).toUInt32 &&& Int32.toUInt32 31)).toInt32) &&& (1431655765 : Int32)))).toUInt32 >>> (((2 : Int32)).toUInt32 &&& Int32.toUInt32 31)).toInt32) &&& (858993459 : Int32))) + ((((((x0 - ((((x0).toUInt32 >>> (((1 : Int32)).toUInt32 &&& Int32.toUInt32 31)).toInt32) &&& (1431655765 : Int32))) &&& (858993459 : Int32)) + (((((x0 - ((((x0).toUInt32 >>> (((1 : Int32)).toUInt32 &&& Int32.toUInt32 31)).toInt32) &&& (1431655765 : Int32)))).toUInt32 >>> (((2 : Int32)).toUInt32 &&& Int32.toUInt32 31)).toInt32) &&& (858993459 : Int32)))).toUInt32 >>> (((4 : Int32)).toUInt32 &&& Int32.toUInt32 31)).toInt32)) &&& (252645135 : Int32)) + ((((((((x0 - ((((x0).toUInt32 >>> (((1 : Int32)).toUInt32 &&& Int32.toUInt32 31)).toInt32) &&& (1431655765 : Int32))) &&& (858993459 : Int32)) + (((((x0 - ((((x0).toUInt32 >>> (((1 : Int32)).toUInt32 &&& Int32.toUInt32 31)).toInt32) &&& (1431655765 : Int32)))).toUInt32 >>> (((2 : Int32)).toUInt32 &&& Int32.toUInt32 31)).toInt32) &&& (858993459 : Int32))) + ((((((x0 - ((((x0).toUInt32 >>> (((1 : Int32)).toUInt32 &&& Int32.toUInt32 31)).toInt32) &&& (1431655765 : Int32))) &&& (858993459 : Int32)) + (((((x0 - ((((x0).toUInt32 >>> (((1 : Int32)).toUInt32 &&& Int32.toUInt32 31)).toInt32) &&& (1431655765 : Int32)))).toUInt32 >>> (((2 : Int32)).toUInt32 &&& Int32.toUInt32 31)).toInt32) &&& (858993459 : Int32)))).toUInt32 >>> (((4 : Int32)).toUInt32 &&& Int32.toUInt32 31)).toInt32)) &&& (252645135 : Int32))).toUInt32 >>> (((8 : Int32)).toUInt32 &&& Int32.toUInt32 31)).toInt32))).toUInt32 >>> (((16 : Int32)).toUInt32 &&& Int32.toUInt32 31)).toInt32)) &&& (63 : Int32)), h)
abbrev rm_X6_coalition : Room := { frames := 5, cells := 0, slots := 0, locals := 107 }
noncomputable def f_X6_coalition_b82 (G : GE) (k15 : Nat → Int32 → Int32 → Int32 → Int32 → PH → Option (Int32 × PH)) (x0 : Nat) (x1 : Int32) (x2 : Int32) (x3 : Int32) (x4 : Int32) (h : PH) : Option (Int32 × PH) :=
  k15 x0 x1 x2 x3 (x4 + (1 : Int32)) h
noncomputable def f_X6_coalition_b76 (G : GE) (k15 : Nat → Int32 → Int32 → Int32 → Int32 → PH → Option (Int32 × PH)) (x0 : Nat) (x1 : Int32) (x4 : Int32) (x5 : Int32) (h : PH) : Option (Int32 × PH) :=
  f_X6_coalition_b82 G k15 x0 x1 x4 x5 x4 h
noncomputable def f_X6_coalition_b15_body (G : GE) (k15 : Nat → Int32 → Int32 → Int32 → Int32 → PH → Option (Int32 × PH)) (x0 : Nat) (x1 : Int32) (x2 : Int32) (x3 : Int32) (x4 : Int32) (h : PH) : Option (Int32 × PH) :=
  (if (16 : Int32) ≤ x4 then (some (x2, h)) else (rd (gR 7 h x0 4) fun v3 => rd (isC 4 h v3) fun _ => bd (f_X3_votesOf G v3 x4 h) fun v4 h => (if x1 < (v4 * (2 : Int32)) then (bd (f_J6_bitCount_0f7a4 G x4 h) fun v5 h => bd (f_J6_bitCount_0f7a4 G x2 h) fun v6 h => (if x2 = 0 then (f_X6_coalition_b76 G k15 x0 x1 x4 v4 h) else ((if (v5 - v6) < 0 then (f_X6_coalition_b76 G k15 x0 x1 x4 v4 h) else ((if (v5 - v6) = 0 then ((if v4 ≤ x3 then (f_X6_coalition_b82 G k15 x0 x1 x2 x3 x4 h) else (f_X6_coalition_b76 G k15 x0 x1 x4 v4 h))) else (f_X6_coalition_b82 G k15 x0 x1 x2 x3 x4 h))))))) else (f_X6_coalition_b82 G k15 x0 x1 x2 x3 x4 h))))
noncomputable def f_X6_coalition_b15 (G : GE) (n : Nat) : Nat → Int32 → Int32 → Int32 → Int32 → PH → Option (Int32 × PH) := lp (fun _ _ _ _ _ _ => none) (f_X6_coalition_b15_body G) n
noncomputable def f_X6_coalition (G : GE) (x0 : Nat) (h : PH) : Option (Int32 × PH) :=
  rd (gR 7 h x0 4) fun v1 => rd (isC 4 h v1) fun _ => bd (f_X3_allVotes G v1 h) fun v2 h => f_X6_coalition_b15 G LF x0 v2 (0 : Int32) (0 : Int32) (1 : Int32) h
abbrev rm_X6_foresee : Room := { frames := 6, cells := 1, slots := 6, locals := 116 }
noncomputable def f_X6_foresee_b73_body (G : GE) (k73 : Nat → Int32 → Int32 → Int32 → PH → Option ((Sum Int32 String) × PH)) (x0 : Nat) (x1 : Int32) (x2 : Int32) (x3 : Int32) (h : PH) : Option ((Sum Int32 String) × PH) :=
  (if x2 ≤ x3 then (rd (gR 7 h x0 5) fun v6 => rd (isC 4 h v6) fun _ => bd (f_X3_directionOf G v6 x1 h) fun v7 h => some (Sum.inl v7, h)) else (rd (gR 7 h x0 5) fun v8 => rd (gI 7 h x0 6) fun v9 => rd (isC 7 h x0) fun _ => bd (f_X6_windAt G x0 (v9 + x3) h) fun v10 h => rd (isC 4 h v8) fun _ => bd (f_X3_blowOnAll G v8 v10 h) fun _ h => rd (gR 7 h x0 5) fun v11 => rd (gI 7 h x0 6) fun v12 => rd (isC 7 h x0) fun _ => bd (f_X6_voteAndRain G x0 v11 (v12 + x3) (0 : Int32) h) fun v13 h => k73 x0 x1 x2 (x3 + (1 : Int32)) h))
noncomputable def f_X6_foresee_b73 (G : GE) (n : Nat) : Nat → Int32 → Int32 → Int32 → PH → Option ((Sum Int32 String) × PH) := lp (fun _ _ _ _ _ => none) (f_X6_foresee_b73_body G) n
noncomputable def f_X6_foresee (G : GE) (x0 : Nat) (x1 : Int32) (x2 : Int32) (h : PH) : Option ((Sum Int32 String) × PH) :=
  rd (isC 7 h x0) fun _ => bd (f_X6_isVane G x0 x1 h) fun v1 h => (if v1 = 0 then (some (Sum.inr "java/lang/IndexOutOfBoundsException", h)) else (bd (f_X6_isWithin G x2 (0 : Int32) (100 : Int32) h) fun v2 h => (if v2 = 0 then (some (Sum.inr "java/lang/IllegalArgumentException", h)) else (rd (gI 7 h x0 6) fun v3 => (if (v3 + x2) ≤ (2000 : Int32) then (rd (gR 7 h x0 5) fun v4 => rd (gR 7 h x0 4) fun v5 => rd (isC 4 h v4) fun _ => bd (f_X3_copyAllFrom G v4 v5 h) fun _ h => f_X6_foresee_b73 G LF x0 x1 x2 (0 : Int32) h) else (some (Sum.inr "java/lang/IllegalStateException", h)))))))
abbrev rm_X6_hoursUntilItPasses : Room := { frames := 5, cells := 0, slots := 0, locals := 116 }
noncomputable def f_X6_hoursUntilItPasses_b2_body (G : GE) (k2 : Nat → Nat → Int32 → Int32 → PH → Option (Int32 × PH)) (x0 : Nat) (x1 : Nat) (x2 : Int32) (x3 : Int32) (h : PH) : Option (Int32 × PH) :=
  (if x2 ≤ x3 then (some (x2, h)) else (rd (gR 7 h x0 5) fun v1 => rd (gI 7 h x0 6) fun v2 => rd (isC 7 h x0) fun _ => bd (f_X6_windAt G x0 (v2 + x3) h) fun v3 h => rd (isC 4 h v1) fun _ => bd (f_X3_blowOnAll G v1 v3 h) fun _ h => rd (gR 7 h x0 5) fun v4 => rd (isC 4 h v4) fun _ => bd (f_X3_carries G v4 x1 h) fun v5 h => (if v5 = 0 then (rd (gR 7 h x0 5) fun v6 => rd (gI 7 h x0 6) fun v7 => rd (isC 7 h x0) fun _ => bd (f_X6_voteAndRain G x0 v6 (v7 + x3) (0 : Int32) h) fun v8 h => k2 x0 x1 x2 (x3 + (1 : Int32)) h) else (some (x3, h)))))
noncomputable def f_X6_hoursUntilItPasses_b2 (G : GE) (n : Nat) : Nat → Nat → Int32 → Int32 → PH → Option (Int32 × PH) := lp (fun _ _ _ _ _ => none) (f_X6_hoursUntilItPasses_b2_body G) n
noncomputable def f_X6_hoursUntilItPasses (G : GE) (x0 : Nat) (x1 : Nat) (x2 : Int32) (h : PH) : Option (Int32 × PH) :=
  f_X6_hoursUntilItPasses_b2 G LF x0 x1 x2 (0 : Int32) h
abbrev rm_X6_passes : Room := { frames := 6, cells := 1, slots := 6, locals := 139 }
noncomputable def f_X6_passes_b103 (G : GE) (t0 : Int32) (h : PH) : Option ((Sum Int32 String) × PH) :=
  some (Sum.inl t0, h)
noncomputable def f_X6_passes (G : GE) (x0 : Nat) (x1 : Int32) (x2 : Int32) (h : PH) : Option ((Sum Int32 String) × PH) :=
  rd (isC 7 h x0) fun _ => bd (f_X6_isMotion G x0 x1 h) fun v1 h => (if v1 = 0 then (some (Sum.inr "java/lang/IndexOutOfBoundsException", h)) else (bd (f_X6_isWithin G x2 (1 : Int32) (100 : Int32) h) fun v2 h => (if v2 = 0 then (some (Sum.inr "java/lang/IllegalArgumentException", h)) else (rd (gI 7 h x0 6) fun v3 => (if (v3 + x2) ≤ (2000 : Int32) then (rd (gR 7 h x0 5) fun v4 => rd (gR 7 h x0 4) fun v5 => rd (isC 4 h v4) fun _ => bd (f_X3_copyAllFrom G v4 v5 h) fun _ h => rd (gR 7 h x0 2) fun v6 => rd (isC 0 h v6) fun _ => bd (f_Jx4a65c_get_915e3 G v6 x1 h) fun v7 h => rd (isC 3 h v7) fun _ => rd (isC 7 h x0) fun _ => bd (f_X6_hoursUntilItPasses G x0 v7 x2 h) fun v8 h => (if x2 ≤ v8 then (f_X6_passes_b103 G (-1 : Int32) h) else (rd (gI 7 h x0 6) fun v9 => f_X6_passes_b103 G (v9 + v8) h))) else (some (Sum.inr "java/lang/IllegalStateException", h)))))))
abbrev rm_X6_advise : Room := { frames := 6, cells := 1, slots := 6, locals := 139 }
noncomputable def f_X6_advise_b169 (G : GE) (k94 : Nat → Int32 → Int32 → Int32 → Int32 → PH → Option ((Sum Int32 String) × PH)) (x0 : Nat) (x1 : Int32) (x3 : Int32) (x4 : Int32) (x5 : Int32) (h : PH) : Option ((Sum Int32 String) × PH) :=
  k94 x0 x1 x3 x4 (x5 + (1 : Int32)) h
noncomputable def f_X6_advise_b94_body (G : GE) (k94 : Nat → Int32 → Int32 → Int32 → Int32 → PH → Option ((Sum Int32 String) × PH)) (x0 : Nat) (x1 : Int32) (x3 : Int32) (x4 : Int32) (x5 : Int32) (h : PH) : Option ((Sum Int32 String) × PH) :=
  rd (gR 7 h x0 5) fun v9 => rd (gR 4 h v9 0) fun v10 => rd (isC 0 h v10) fun _ => bd (f_Jx4a65c_size_8abf5 G v10 h) fun v11 h => (if v11 ≤ x5 then (some (Sum.inl x4, h)) else (rd (gR 7 h x0 5) fun v12 => rd (gR 7 h x0 4) fun v13 => rd (isC 4 h v12) fun _ => bd (f_X3_copyAllFrom G v12 v13 h) fun _ h => rd (gR 7 h x0 5) fun v14 => rd (gR 4 h v14 0) fun v15 => rd (isC 0 h v15) fun _ => bd (f_Jx4a65c_get_915e3 G v15 x5 h) fun v16 h => rd (isC 5 h v16) fun _ => rd (isC 5 h v16) fun _ => bd (f_X4_takeOil G v16 h) fun _ h => rd (gR 7 h x0 2) fun v17 => rd (isC 0 h v17) fun _ => bd (f_Jx4a65c_get_915e3 G v17 x1 h) fun v18 h => rd (isC 3 h v18) fun _ => rd (isC 7 h x0) fun _ => bd (f_X6_hoursUntilItPasses G x0 v18 x3 h) fun v19 h => (if x3 ≤ v19 then (f_X6_advise_b169 G k94 x0 x1 x3 x4 x5 h) else (f_X6_advise_b169 G k94 x0 x1 v19 x5 x5 h))))
noncomputable def f_X6_advise_b94 (G : GE) (n : Nat) : Nat → Int32 → Int32 → Int32 → Int32 → PH → Option ((Sum Int32 String) × PH) := lp (fun _ _ _ _ _ _ => none) (f_X6_advise_b94_body G) n
noncomputable def f_X6_advise (G : GE) (x0 : Nat) (x1 : Int32) (x2 : Int32) (h : PH) : Option ((Sum Int32 String) × PH) :=
  rd (isC 7 h x0) fun _ => bd (f_X6_isMotion G x0 x1 h) fun v1 h => (if v1 = 0 then (some (Sum.inr "java/lang/IndexOutOfBoundsException", h)) else (bd (f_X6_isWithin G x2 (1 : Int32) (50 : Int32) h) fun v2 h => (if v2 = 0 then (some (Sum.inr "java/lang/IllegalArgumentException", h)) else (rd (gI 7 h x0 6) fun v3 => (if (v3 + x2) ≤ (2000 : Int32) then (rd (gR 7 h x0 5) fun v4 => rd (gR 7 h x0 4) fun v5 => rd (isC 4 h v4) fun _ => bd (f_X3_copyAllFrom G v4 v5 h) fun _ h => rd (gR 7 h x0 2) fun v6 => rd (isC 0 h v6) fun _ => bd (f_Jx4a65c_get_915e3 G v6 x1 h) fun v7 h => rd (isC 3 h v7) fun _ => rd (isC 7 h x0) fun _ => bd (f_X6_hoursUntilItPasses G x0 v7 x2 h) fun v8 h => f_X6_advise_b94 G LF x0 x1 v8 (-1 : Int32) (0 : Int32) h) else (some (Sum.inr "java/lang/IllegalStateException", h)))))))
abbrev rm_X6_discord : Room := { frames := 4, cells := 0, slots := 0, locals := 86 }
noncomputable def f_X6_discord_b21_body (G : GE) (k21 : Nat → Int32 → Int32 → Int32 → PH → Option (UInt64 × PH)) (x0 : Nat) (x1 : Int32) (x2 : Int32) (x3 : Int32) (h : PH) : Option (UInt64 × PH) :=
  (if x1 ≤ x3 then (ngd (FP.ddiv (FP.i2d x2) (FP.i2d x1)) <| some ((FP.ddiv (FP.i2d x2) (FP.i2d x1)), h)) else (rd (gR 7 h x0 4) fun v4 => rd (gR 4 h v4 0) fun v5 => rd (isC 0 h v5) fun _ => bd (f_Jx4a65c_get_915e3 G v5 x3 h) fun v6 h => rd (isC 5 h v6) fun _ => rd (gI 5 h v6 3) fun v7 => rd (gI 7 h x0 6) fun v8 => rd (isC 7 h x0) fun _ => bd (f_X6_windAt G x0 v8 h) fun v9 h => rd (gI 6 h v9 0) fun v10 => bd (f_X6_distance G v7 v10 h) fun v11 h => k21 x0 x1 (x2 + v11) (x3 + (1 : Int32)) h))
noncomputable def f_X6_discord_b21 (G : GE) (n : Nat) : Nat → Int32 → Int32 → Int32 → PH → Option (UInt64 × PH) := lp (fun _ _ _ _ _ => none) (f_X6_discord_b21_body G) n
noncomputable def f_X6_discord (G : GE) (x0 : Nat) (h : PH) : Option (UInt64 × PH) :=
  rd (gR 7 h x0 4) fun v1 => rd (gR 4 h v1 0) fun v2 => rd (isC 0 h v2) fun _ => bd (f_Jx4a65c_size_8abf5 G v2 h) fun v3 h => (if v3 = 0 then (some ((0 : UInt64), h)) else (f_X6_discord_b21 G LF x0 v3 (0 : Int32) (0 : Int32) h))
abbrev rm_X6_digestWinds : Room := { frames := 3, cells := 0, slots := 0, locals := 64 }
noncomputable def f_X6_digestWinds_b20_body (G : GE) (k5 : Nat → Int64 → Int32 → PH → Option (Int64 × PH)) (k20 : Nat → Int64 → Int32 → Int32 → PH → Option (Int64 × PH)) (x0 : Nat) (x3 : Int64) (x5 : Int32) (x6 : Int32) (h : PH) : Option (Int64 × PH) :=
  (if (3 : Int32) ≤ x6 then (k5 x0 x3 (x5 + (1 : Int32)) h) else (rd (gR 7 h x0 1) fun v3 => rd (isC 0 h v3) fun _ => bd (f_Jx4a65c_get_915e3 G v3 x5 h) fun v4 h => rd (isC 6 h v4) fun _ => rd (isC 6 h v4) fun _ => bd (f_X5_tell G v4 x6 h) fun v5 h => k20 x0 ((x3 * (31 : Int64)) + ((v5).toInt64)) x5 (x6 + (1 : Int32)) h))
noncomputable def f_X6_digestWinds_b20 (G : GE) (k5 : Nat → Int64 → Int32 → PH → Option (Int64 × PH)) (n : Nat) : Nat → Int64 → Int32 → Int32 → PH → Option (Int64 × PH) := lp (fun _ _ _ _ _ => none) (f_X6_digestWinds_b20_body G k5) n
noncomputable def f_X6_digestWinds_b5_body (G : GE) (k5 : Nat → Int64 → Int32 → PH → Option (Int64 × PH)) (x0 : Nat) (x3 : Int64) (x5 : Int32) (h : PH) : Option (Int64 × PH) :=
  rd (gR 7 h x0 1) fun v1 => rd (isC 0 h v1) fun _ => bd (f_Jx4a65c_size_8abf5 G v1 h) fun v2 h => (if v2 ≤ x5 then (some (x3, h)) else (f_X6_digestWinds_b20 G k5 LF x0 x3 x5 (0 : Int32) h))
noncomputable def f_X6_digestWinds_b5 (G : GE) (n : Nat) : Nat → Int64 → Int32 → PH → Option (Int64 × PH) := lp (fun _ _ _ _ => none) (f_X6_digestWinds_b5_body G) n
noncomputable def f_X6_digestWinds (G : GE) (x0 : Nat) (x1 : Int64) (h : PH) : Option (Int64 × PH) :=
  f_X6_digestWinds_b5 G LF x0 x1 (0 : Int32) h
abbrev rm_X6_digestVanes : Room := { frames := 4, cells := 0, slots := 0, locals := 86 }
noncomputable def f_X6_digestVanes_b23_body (G : GE) (k5 : Nat → Int64 → Int32 → PH → Option (Int64 × PH)) (k23 : Nat → Int64 → Int32 → Int32 → PH → Option (Int64 × PH)) (x0 : Nat) (x3 : Int64) (x5 : Int32) (x6 : Int32) (h : PH) : Option (Int64 × PH) :=
  (if (12 : Int32) ≤ x6 then (k5 x0 x3 (x5 + (1 : Int32)) h) else (rd (gR 7 h x0 4) fun v4 => rd (gR 4 h v4 0) fun v5 => rd (isC 0 h v5) fun _ => bd (f_Jx4a65c_get_915e3 G v5 x5 h) fun v6 h => rd (isC 5 h v6) fun _ => rd (gI 7 h x0 6) fun v7 => rd (isC 7 h x0) fun _ => bd (f_X6_windAt G x0 v7 h) fun v8 h => rd (isC 5 h v6) fun _ => bd (f_X4_tell G v6 x6 v8 h) fun v9 h => k23 x0 ((x3 * (31 : Int64)) + ((v9).toInt64)) x5 (x6 + (1 : Int32)) h))
noncomputable def f_X6_digestVanes_b23 (G : GE) (k5 : Nat → Int64 → Int32 → PH → Option (Int64 × PH)) (n : Nat) : Nat → Int64 → Int32 → Int32 → PH → Option (Int64 × PH) := lp (fun _ _ _ _ _ => none) (f_X6_digestVanes_b23_body G k5) n
noncomputable def f_X6_digestVanes_b5_body (G : GE) (k5 : Nat → Int64 → Int32 → PH → Option (Int64 × PH)) (x0 : Nat) (x3 : Int64) (x5 : Int32) (h : PH) : Option (Int64 × PH) :=
  rd (gR 7 h x0 4) fun v1 => rd (gR 4 h v1 0) fun v2 => rd (isC 0 h v2) fun _ => bd (f_Jx4a65c_size_8abf5 G v2 h) fun v3 h => (if v3 ≤ x5 then (some (x3, h)) else (f_X6_digestVanes_b23 G k5 LF x0 x3 x5 (0 : Int32) h))
noncomputable def f_X6_digestVanes_b5 (G : GE) (n : Nat) : Nat → Int64 → Int32 → PH → Option (Int64 × PH) := lp (fun _ _ _ _ => none) (f_X6_digestVanes_b5_body G) n
noncomputable def f_X6_digestVanes (G : GE) (x0 : Nat) (x1 : Int64) (h : PH) : Option (Int64 × PH) :=
  f_X6_digestVanes_b5 G LF x0 x1 (0 : Int32) h
abbrev rm_X6_digestMotions : Room := { frames := 5, cells := 0, slots := 0, locals := 111 }
noncomputable def f_X6_digestMotions_b20_body (G : GE) (k5 : Nat → Int64 → Int32 → PH → Option (Int64 × PH)) (k20 : Nat → Int64 → Int32 → Int32 → PH → Option (Int64 × PH)) (x0 : Nat) (x3 : Int64) (x5 : Int32) (x6 : Int32) (h : PH) : Option (Int64 × PH) :=
  (if (9 : Int32) ≤ x6 then (k5 x0 x3 (x5 + (1 : Int32)) h) else (rd (gR 7 h x0 2) fun v3 => rd (isC 0 h v3) fun _ => bd (f_Jx4a65c_get_915e3 G v3 x5 h) fun v4 h => rd (isC 3 h v4) fun _ => rd (gR 7 h x0 4) fun v5 => rd (isC 3 h v4) fun _ => bd (f_X2_tell G v4 x6 v5 h) fun v6 h => k20 x0 ((x3 * (31 : Int64)) + ((v6).toInt64)) x5 (x6 + (1 : Int32)) h))
noncomputable def f_X6_digestMotions_b20 (G : GE) (k5 : Nat → Int64 → Int32 → PH → Option (Int64 × PH)) (n : Nat) : Nat → Int64 → Int32 → Int32 → PH → Option (Int64 × PH) := lp (fun _ _ _ _ _ => none) (f_X6_digestMotions_b20_body G k5) n
noncomputable def f_X6_digestMotions_b5_body (G : GE) (k5 : Nat → Int64 → Int32 → PH → Option (Int64 × PH)) (x0 : Nat) (x3 : Int64) (x5 : Int32) (h : PH) : Option (Int64 × PH) :=
  rd (gR 7 h x0 2) fun v1 => rd (isC 0 h v1) fun _ => bd (f_Jx4a65c_size_8abf5 G v1 h) fun v2 h => (if v2 ≤ x5 then (some (x3, h)) else (f_X6_digestMotions_b20 G k5 LF x0 x3 x5 (0 : Int32) h))
noncomputable def f_X6_digestMotions_b5 (G : GE) (n : Nat) : Nat → Int64 → Int32 → PH → Option (Int64 × PH) := lp (fun _ _ _ _ => none) (f_X6_digestMotions_b5_body G) n
noncomputable def f_X6_digestMotions (G : GE) (x0 : Nat) (x1 : Int64) (h : PH) : Option (Int64 × PH) :=
  f_X6_digestMotions_b5 G LF x0 x1 (0 : Int32) h
abbrev rm_X6_digest : Room := { frames := 6, cells := 0, slots := 0, locals := 137 }
noncomputable def f_X6_digest_b51_body (G : GE) (k51 : Nat → Int64 → Int32 → PH → Option (Int64 × PH)) (x0 : Nat) (x1 : Int64) (x3 : Int32) (h : PH) : Option (Int64 × PH) :=
  rd (gR 7 h x0 3) fun v5 => rd (isC 0 h v5) fun _ => bd (f_Jx4a65c_size_8abf5 G v5 h) fun v6 h => (if v6 ≤ x3 then (some (x1, h)) else (rd (gR 7 h x0 3) fun v7 => rd (isC 0 h v7) fun _ => bd (f_Jx4a65c_get_915e3 G v7 x3 h) fun v8 h => rd (isC 1 h v8) fun _ => rd (gR 1 h v8 0) fun v9 => rd (gI 3 h v9 0) fun v10 => rd (gR 7 h x0 3) fun v11 => rd (isC 0 h v11) fun _ => bd (f_Jx4a65c_get_915e3 G v11 x3 h) fun v12 h => rd (isC 1 h v12) fun _ => rd (gI 1 h v12 1) fun v13 => k51 x0 ((((x1 * (31 : Int64)) + ((v10).toInt64)) * (31 : Int64)) + ((v13).toInt64)) (x3 + (1 : Int32)) h))
noncomputable def f_X6_digest_b51 (G : GE) (n : Nat) : Nat → Int64 → Int32 → PH → Option (Int64 × PH) := lp (fun _ _ _ _ => none) (f_X6_digest_b51_body G) n
noncomputable def f_X6_digest_b6_body (G : GE) (k6 : Nat → Int64 → Int32 → PH → Option (Int64 × PH)) (x0 : Nat) (x1 : Int64) (x3 : Int32) (h : PH) : Option (Int64 × PH) :=
  (if (9 : Int32) ≤ x3 then (rd (isC 7 h x0) fun _ => bd (f_X6_digestWinds G x0 x1 h) fun v1 h => rd (isC 7 h x0) fun _ => bd (f_X6_digestVanes G x0 v1 h) fun v2 h => rd (isC 7 h x0) fun _ => bd (f_X6_digestMotions G x0 v2 h) fun v3 h => f_X6_digest_b51 G LF x0 v3 (0 : Int32) h) else (rd (isC 7 h x0) fun _ => bd (f_X6_tally G x0 x3 h) fun v4 h => k6 x0 ((x1 * (31 : Int64)) + ((v4).toInt64)) (x3 + (1 : Int32)) h))
noncomputable def f_X6_digest_b6 (G : GE) (n : Nat) : Nat → Int64 → Int32 → PH → Option (Int64 × PH) := lp (fun _ _ _ _ => none) (f_X6_digest_b6_body G) n
noncomputable def f_X6_digest (G : GE) (x0 : Nat) (h : PH) : Option (Int64 × PH) :=
  f_X6_digest_b6 G LF x0 (503 : Int64) (0 : Int32) h
abbrev rm_X7_init : Room := { frames := 1, cells := 6, slots := 344, locals := 20 }
noncomputable def f_X7_init (G : GE) (x0 : Nat) (h : PH) : Option (Unit × PH) :=
  rd (sF 8 h x0 1 (.int (1 : Int32))) fun h => nw h (cI 24) fun q1 h => rd (sF 8 h x0 2 (.ref q1)) fun h => nw h (cI 24) fun q2 h => rd (sF 8 h x0 3 (.ref q2)) fun h => nw h (cZ 24) fun q3 h => rd (sF 8 h x0 4 (.ref q3)) fun h => nw h (cI 160) fun q4 h => rd (sF 8 h x0 6 (.ref q4)) fun h => nw h (cI 72) fun q5 h => rd (sF 8 h x0 8 (.ref q5)) fun h => nw h (cI 40) fun q6 h => rd (sF 8 h x0 10 (.ref q6)) fun h => rd (gR 8 h x0 3) fun v7 => rd (aIs h v7 (0 : Int32) (5 : Int32)) fun h => some ((), h)
abbrev rm_X7_become : Room := { frames := 1, cells := 0, slots := 0, locals := 60 }
noncomputable def f_X7_become (G : GE) (x0 : Nat) (x1 : Nat) (h : PH) : Option (Unit × PH) :=
  rd (gI 8 h x1 0) fun v1 => rd (sF 8 h x0 0 (.int v1)) fun h => rd (gI 8 h x1 1) fun v2 => rd (sF 8 h x0 1 (.int v2)) fun h => rd (gI 8 h x1 5) fun v3 => rd (sF 8 h x0 5 (.int v3)) fun h => rd (gI 8 h x1 7) fun v4 => rd (sF 8 h x0 7 (.int v4)) fun h => rd (gI 8 h x1 9) fun v5 => rd (sF 8 h x0 9 (.int v5)) fun h => rd (gI 8 h x1 11) fun v6 => rd (sF 8 h x0 11 (.int v6)) fun h => rd (gR 8 h x1 2) fun v7 => rd (gR 8 h x0 2) fun v8 => rd (cpI 0 h v7 (0 : Int32) v8 (0 : Int32) (24 : Int32)) fun h => rd (gR 8 h x1 3) fun v9 => rd (gR 8 h x0 3) fun v10 => rd (cpI 0 h v9 (0 : Int32) v10 (0 : Int32) (24 : Int32)) fun h => rd (gR 8 h x1 4) fun v11 => rd (gR 8 h x0 4) fun v12 => rd (cpI 2 h v11 (0 : Int32) v12 (0 : Int32) (24 : Int32)) fun h => rd (gR 8 h x1 6) fun v13 => rd (gR 8 h x0 6) fun v14 => rd (gR 8 h x0 6) fun v15 => rd (aLen G h v15) fun v16 => rd (cpI 0 h v13 (0 : Int32) v14 (0 : Int32) v16) fun h => rd (gR 8 h x1 8) fun v17 => rd (gR 8 h x0 8) fun v18 => rd (gR 8 h x0 8) fun v19 => rd (aLen G h v19) fun v20 => rd (cpI 0 h v17 (0 : Int32) v18 (0 : Int32) v20) fun h => rd (gR 8 h x1 10) fun v21 => rd (gR 8 h x0 10) fun v22 => rd (gR 8 h x0 10) fun v23 => rd (aLen G h v23) fun v24 => rd (cpI 0 h v21 (0 : Int32) v22 (0 : Int32) v24) fun h => some ((), h)
abbrev rm_X7_of : Room := { frames := 0, cells := 0, slots := 0, locals := 0 }
noncomputable def f_X7_of (G : GE) (x0 : Nat) (x1 : Int32) (x2 : Int32) (h : PH) : Option (Int32 × PH) :=
  rd (gR 8 h x0 6) fun v1 => rd (aI h v1 (((10 : Int32) * x1) + x2)) fun v2 => some (v2, h)
abbrev rm_X7_set : Room := { frames := 0, cells := 0, slots := 0, locals := 0 }
noncomputable def f_X7_set (G : GE) (x0 : Nat) (x1 : Int32) (x2 : Int32) (x3 : Int32) (h : PH) : Option (Unit × PH) :=
  rd (gR 8 h x0 6) fun v1 => rd (aIs h v1 (((10 : Int32) * x1) + x2) x3) fun h => some ((), h)
abbrev rm_X7_entry : Room := { frames := 0, cells := 0, slots := 0, locals := 0 }
noncomputable def f_X7_entry (G : GE) (x0 : Nat) (h : PH) : Option (Int32 × PH) :=
  rd (gI 8 h x0 0) fun v1 => rd (gI 8 h x0 1) fun v2 => nz v2 <| some ((v1 - v1 / v2 * v2), h)
abbrev rm_X7_lee : Room := { frames := 1, cells := 0, slots := 0, locals := 22 }
noncomputable def f_X7_lee_b170 (G : GE) (k86 : Nat → Int32 → Int32 → Int32 → Int32 → Int32 → PH → Option (Int32 × PH)) (k95 : Nat → Int32 → Int32 → Int32 → Int32 → Int32 → Int32 → PH → Option (Int32 × PH)) (x0 : Nat) (x1 : Int32) (x3 : Int32) (x4 : Int32) (x6 : Int32) (x7 : Int32) (t0 : Int32) (t1 : Int32) (h : PH) : Option (Int32 × PH) :=
  k95 x0 x1 x3 x4 (t0 + t1) x6 (x7 + (1 : Int32)) h
noncomputable def f_X7_lee_b169 (G : GE) (k86 : Nat → Int32 → Int32 → Int32 → Int32 → Int32 → PH → Option (Int32 × PH)) (k95 : Nat → Int32 → Int32 → Int32 → Int32 → Int32 → Int32 → PH → Option (Int32 × PH)) (x0 : Nat) (x1 : Int32) (x3 : Int32) (x4 : Int32) (x6 : Int32) (x7 : Int32) (t0 : Int32) (h : PH) : Option (Int32 × PH) :=
  f_X7_lee_b170 G k86 k95 x0 x1 x3 x4 x6 x7 t0 (0 : Int32) h
noncomputable def f_X7_lee_b95_body (G : GE) (k86 : Nat → Int32 → Int32 → Int32 → Int32 → Int32 → PH → Option (Int32 × PH)) (k95 : Nat → Int32 → Int32 → Int32 → Int32 → Int32 → Int32 → PH → Option (Int32 × PH)) (x0 : Nat) (x1 : Int32) (x3 : Int32) (x4 : Int32) (x5 : Int32) (x6 : Int32) (x7 : Int32) (h : PH) : Option (Int32 × PH) :=
  rd (gI 8 h x0 5) fun v4 => (if v4 ≤ x7 then (k86 x0 x1 x3 x4 x5 (x6 + (1 : Int32)) h) else (rd (isC 8 h x0) fun _ => bd (f_X7_of G x0 x7 (0 : Int32) h) fun v5 h => rd (isC 8 h x0) fun _ => bd (f_X7_of G x0 x1 (0 : Int32) h) fun v6 h => (if v5 = (v6 + (x6 * x3)) then (rd (isC 8 h x0) fun _ => bd (f_X7_of G x0 x7 (1 : Int32) h) fun v7 h => rd (isC 8 h x0) fun _ => bd (f_X7_of G x0 x1 (1 : Int32) h) fun v8 h => (if v7 = (v8 + (x6 * x4)) then (rd (isC 8 h x0) fun _ => bd (f_X7_of G x0 x7 (2 : Int32) h) fun v9 h => rd (isC 8 h x0) fun _ => bd (f_X7_of G x0 x1 (2 : Int32) h) fun v10 h => (if v9 ≤ v10 then (f_X7_lee_b169 G k86 k95 x0 x1 x3 x4 x6 x7 x5 h) else (f_X7_lee_b170 G k86 k95 x0 x1 x3 x4 x6 x7 x5 (1 : Int32) h))) else (f_X7_lee_b169 G k86 k95 x0 x1 x3 x4 x6 x7 x5 h))) else (f_X7_lee_b169 G k86 k95 x0 x1 x3 x4 x6 x7 x5 h))))
noncomputable def f_X7_lee_b95 (G : GE) (k86 : Nat → Int32 → Int32 → Int32 → Int32 → Int32 → PH → Option (Int32 × PH)) (n : Nat) : Nat → Int32 → Int32 → Int32 → Int32 → Int32 → Int32 → PH → Option (Int32 × PH) := lp (fun _ _ _ _ _ _ _ _ => none) (f_X7_lee_b95_body G k86) n
noncomputable def f_X7_lee_b86_body (G : GE) (k86 : Nat → Int32 → Int32 → Int32 → Int32 → Int32 → PH → Option (Int32 × PH)) (x0 : Nat) (x1 : Int32) (x3 : Int32) (x4 : Int32) (x5 : Int32) (x6 : Int32) (h : PH) : Option (Int32 × PH) :=
  (if (4 : Int32) ≤ x6 then (some (x5, h)) else (f_X7_lee_b95 G k86 LF x0 x1 x3 x4 x5 x6 (0 : Int32) h))
noncomputable def f_X7_lee_b86 (G : GE) (n : Nat) : Nat → Int32 → Int32 → Int32 → Int32 → Int32 → PH → Option (Int32 × PH) := lp (fun _ _ _ _ _ _ _ => none) (f_X7_lee_b86_body G) n
noncomputable def f_X7_lee_b78 (G : GE) (x0 : Nat) (x1 : Int32) (x3 : Int32) (t0 : Int32) (h : PH) : Option (Int32 × PH) :=
  f_X7_lee_b86 G LF x0 x1 x3 t0 (0 : Int32) (1 : Int32) h
noncomputable def f_X7_lee_b58 (G : GE) (x0 : Nat) (x1 : Int32) (x3 : Int32) (h : PH) : Option (Int32 × PH) :=
  f_X7_lee_b78 G x0 x1 x3 (0 : Int32) h
noncomputable def f_X7_lee_b77 (G : GE) (x0 : Nat) (x1 : Int32) (x3 : Int32) (h : PH) : Option (Int32 × PH) :=
  f_X7_lee_b78 G x0 x1 x3 (-1 : Int32) h
noncomputable def f_X7_lee_b46 (G : GE) (x0 : Nat) (x1 : Int32) (x2 : Int32) (t0 : Int32) (h : PH) : Option (Int32 × PH) :=
  (if x2 = (2 : Int32) then (f_X7_lee_b58 G x0 x1 t0 h) else ((if x2 = (6 : Int32) then (f_X7_lee_b58 G x0 x1 t0 h) else ((if x2 ≤ (2 : Int32) then (f_X7_lee_b77 G x0 x1 t0 h) else ((if (6 : Int32) ≤ x2 then (f_X7_lee_b77 G x0 x1 t0 h) else (f_X7_lee_b78 G x0 x1 t0 (1 : Int32) h))))))))
noncomputable def f_X7_lee_b32 (G : GE) (x0 : Nat) (x1 : Int32) (x2 : Int32) (h : PH) : Option (Int32 × PH) :=
  f_X7_lee_b46 G x0 x1 x2 (0 : Int32) h
noncomputable def f_X7_lee (G : GE) (x0 : Nat) (x1 : Int32) (h : PH) : Option (Int32 × PH) :=
  rd (gR 8 h x0 2) fun v1 => rd (isC 8 h x0) fun _ => bd (f_X7_entry G x0 h) fun v2 h => rd (aI h v1 v2) fun v3 => (if (((((v3 + (8 : Int32)) - (v3 + (8 : Int32)) / (16 : Int32) * (16 : Int32)) + (1 : Int32)) / (2 : Int32)) - ((((v3 + (8 : Int32)) - (v3 + (8 : Int32)) / (16 : Int32) * (16 : Int32)) + (1 : Int32)) / (2 : Int32)) / (8 : Int32) * (8 : Int32)) = 0 then (f_X7_lee_b32 G x0 x1 (((((v3 + (8 : Int32)) - (v3 + (8 : Int32)) / (16 : Int32) * (16 : Int32)) + (1 : Int32)) / (2 : Int32)) - ((((v3 + (8 : Int32)) - (v3 + (8 : Int32)) / (16 : Int32) * (16 : Int32)) + (1 : Int32)) / (2 : Int32)) / (8 : Int32) * (8 : Int32)) h) else ((if (((((v3 + (8 : Int32)) - (v3 + (8 : Int32)) / (16 : Int32) * (16 : Int32)) + (1 : Int32)) / (2 : Int32)) - ((((v3 + (8 : Int32)) - (v3 + (8 : Int32)) / (16 : Int32) * (16 : Int32)) + (1 : Int32)) / (2 : Int32)) / (8 : Int32) * (8 : Int32)) = (4 : Int32) then (f_X7_lee_b32 G x0 x1 (((((v3 + (8 : Int32)) - (v3 + (8 : Int32)) / (16 : Int32) * (16 : Int32)) + (1 : Int32)) / (2 : Int32)) - ((((v3 + (8 : Int32)) - (v3 + (8 : Int32)) / (16 : Int32) * (16 : Int32)) + (1 : Int32)) / (2 : Int32)) / (8 : Int32) * (8 : Int32)) h) else ((if (4 : Int32) ≤ (((((v3 + (8 : Int32)) - (v3 + (8 : Int32)) / (16 : Int32) * (16 : Int32)) + (1 : Int32)) / (2 : Int32)) - ((((v3 + (8 : Int32)) - (v3 + (8 : Int32)) / (16 : Int32) * (16 : Int32)) + (1 : Int32)) / (2 : Int32)) / (8 : Int32) * (8 : Int32)) then (f_X7_lee_b46 G x0 x1 (((((v3 + (8 : Int32)) - (v3 + (8 : Int32)) / (16 : Int32) * (16 : Int32)) + (1 : Int32)) / (2 : Int32)) - ((((v3 + (8 : Int32)) - (v3 + (8 : Int32)) / (16 : Int32) * (16 : Int32)) + (1 : Int32)) / (2 : Int32)) / (8 : Int32) * (8 : Int32)) (-1 : Int32) h) else (f_X7_lee_b46 G x0 x1 (((((v3 + (8 : Int32)) - (v3 + (8 : Int32)) / (16 : Int32) * (16 : Int32)) + (1 : Int32)) / (2 : Int32)) - ((((v3 + (8 : Int32)) - (v3 + (8 : Int32)) / (16 : Int32) * (16 : Int32)) + (1 : Int32)) / (2 : Int32)) / (8 : Int32) * (8 : Int32)) (1 : Int32) h))))))
abbrev rm_X7_windAt : Room := { frames := 2, cells := 0, slots := 0, locals := 49 }
noncomputable def f_X7_windAt (G : GE) (x0 : Nat) (x1 : Int32) (h : PH) : Option (Int32 × PH) :=
  rd (gR 8 h x0 3) fun v1 => rd (isC 8 h x0) fun _ => bd (f_X7_entry G x0 h) fun v2 h => rd (aI h v1 v2) fun v3 => rd (isC 8 h x0) fun _ => bd (f_X7_lee G x0 x1 h) fun v4 h => some ((mxI (0 : Int32) (v3 - ((2 : Int32) * v4))), h)
abbrev rm_X7_oil : Room := { frames := 1, cells := 0, slots := 0, locals := 23 }
noncomputable def f_X7_oil (G : GE) (x0 : Nat) (x1 : Int32) (h : PH) : Option (Unit × PH) :=
  rd (isC 8 h x0) fun _ => bd (f_X7_set G x0 x1 (5 : Int32) (0 : Int32) h) fun _ h => rd (isC 8 h x0) fun _ => bd (f_X7_set G x0 x1 (9 : Int32) (0 : Int32) h) fun _ h => some ((), h)
abbrev rm_X8_apart : Room := { frames := 0, cells := 0, slots := 0, locals := 0 }
noncomputable def f_X8_apart_b24 (G : GE) (t0 : Int32) (h : PH) : Option (Int32 × PH) :=
  some (t0, h)
noncomputable def f_X8_apart (G : GE) (x0 : Int32) (x1 : Int32) (h : PH) : Option (Int32 × PH) :=
  (if (((x1 - x0) + (16 : Int32)) - ((x1 - x0) + (16 : Int32)) / (16 : Int32) * (16 : Int32)) ≤ (8 : Int32) then (f_X8_apart_b24 G (((x1 - x0) + (16 : Int32)) - ((x1 - x0) + (16 : Int32)) / (16 : Int32) * (16 : Int32)) h) else (f_X8_apart_b24 G ((((x1 - x0) + (16 : Int32)) - ((x1 - x0) + (16 : Int32)) / (16 : Int32) * (16 : Int32)) - (16 : Int32)) h))
abbrev rm_X7_turn : Room := { frames := 3, cells := 0, slots := 0, locals := 70 }
noncomputable def f_X7_turn_b180 (G : GE) (k2 : Nat → Int32 → PH → Option (Unit × PH)) (x0 : Nat) (x1 : Int32) (h : PH) : Option (Unit × PH) :=
  k2 x0 (x1 + (1 : Int32)) h
noncomputable def f_X7_turn_b36 (G : GE) (k2 : Nat → Int32 → PH → Option (Unit × PH)) (x0 : Nat) (x1 : Int32) (h : PH) : Option (Unit × PH) :=
  rd (isC 8 h x0) fun _ => bd (f_X7_of G x0 x1 (8 : Int32) h) fun v15 h => rd (isC 8 h x0) fun _ => bd (f_X7_set G x0 x1 (8 : Int32) (mxI (0 : Int32) (v15 - (1 : Int32))) h) fun _ h => rd (isC 8 h x0) fun _ => bd (f_X7_set G x0 x1 (7 : Int32) (0 : Int32) h) fun _ h => f_X7_turn_b180 G k2 x0 x1 h
noncomputable def f_X7_turn_b148 (G : GE) (k2 : Nat → Int32 → PH → Option (Unit × PH)) (x0 : Nat) (x1 : Int32) (x4 : Int32) (h : PH) : Option (Unit × PH) :=
  rd (isC 8 h x0) fun _ => bd (f_X7_set G x0 x1 (7 : Int32) x4 h) fun _ h => rd (isC 8 h x0) fun _ => bd (f_X7_of G x0 x1 (6 : Int32) h) fun v16 h => rd (isC 8 h x0) fun _ => bd (f_X7_set G x0 x1 (6 : Int32) (((v16 + x4) + (16 : Int32)) - ((v16 + x4) + (16 : Int32)) / (16 : Int32) * (16 : Int32)) h) fun _ h => f_X7_turn_b180 G k2 x0 x1 h
noncomputable def f_X7_turn_b2_body (G : GE) (k2 : Nat → Int32 → PH → Option (Unit × PH)) (x0 : Nat) (x1 : Int32) (h : PH) : Option (Unit × PH) :=
  rd (gI 8 h x0 5) fun v1 => (if v1 ≤ x1 then (some ((), h)) else (rd (isC 8 h x0) fun _ => bd (f_X7_windAt G x0 x1 h) fun v2 h => rd (isC 8 h x0) fun _ => bd (f_X7_of G x0 x1 (8 : Int32) h) fun v3 h => (if 0 < v3 then (f_X7_turn_b36 G k2 x0 x1 h) else (rd (isC 8 h x0) fun _ => bd (f_X7_of G x0 x1 (5 : Int32) h) fun v4 h => (if v4 < v2 then (rd (isC 8 h x0) fun _ => bd (f_X7_of G x0 x1 (6 : Int32) h) fun v5 h => rd (gR 8 h x0 2) fun v6 => rd (isC 8 h x0) fun _ => bd (f_X7_entry G x0 h) fun v7 h => rd (aI h v6 v7) fun v8 => bd (f_X8_apart G v5 v8 h) fun v9 h => rd (isC 8 h x0) fun _ => bd (f_X7_of G x0 x1 (7 : Int32) h) fun v10 h => rd (isC 8 h x0) fun _ => bd (f_X7_of G x0 x1 (3 : Int32) h) fun v11 h => rd (isC 8 h x0) fun _ => bd (f_X7_of G x0 x1 (3 : Int32) h) fun v12 h => rd (isC 8 h x0) fun _ => bd (f_X7_of G x0 x1 (5 : Int32) h) fun v13 h => nz ((v12 + (4 : Int32)) + v13) <| (if (mxI (-8 : Int32) (mnI (8 : Int32) (((v10 * v11) + (v9 * v2)) / ((v12 + (4 : Int32)) + v13)))) = 0 then (bd (f_J6_signum_0f7a4 G v9 h) fun v14 h => f_X7_turn_b148 G k2 x0 x1 v14 h) else (f_X7_turn_b148 G k2 x0 x1 (mxI (-8 : Int32) (mnI (8 : Int32) (((v10 * v11) + (v9 * v2)) / ((v12 + (4 : Int32)) + v13)))) h))) else (f_X7_turn_b36 G k2 x0 x1 h))))))
noncomputable def f_X7_turn_b2 (G : GE) (n : Nat) : Nat → Int32 → PH → Option (Unit × PH) := lp (fun _ _ _ => none) (f_X7_turn_b2_body G) n
noncomputable def f_X7_turn (G : GE) (x0 : Nat) (h : PH) : Option (Unit × PH) :=
  f_X7_turn_b2 G LF x0 (0 : Int32) h
abbrev rm_X7_stand : Room := { frames := 1, cells := 0, slots := 0, locals := 22 }
noncomputable def f_X7_stand_b62 (G : GE) (t0 : Int32) (h : PH) : Option (Int32 × PH) :=
  some (t0, h)
noncomputable def f_X7_stand (G : GE) (x0 : Nat) (x1 : Int32) (x2 : Int32) (h : PH) : Option (Int32 × PH) :=
  rd (isC 8 h x0) fun _ => bd (f_X7_of G x0 x2 (6 : Int32) h) fun v1 h => rd (gR 8 h x0 8) fun v2 => rd (aI h v2 ((6 : Int32) * x1)) fun v3 => bd (f_X8_apart G v1 v3 h) fun v4 h => rd (gR 8 h x0 8) fun v5 => rd (aI h v5 (((6 : Int32) * x1) + (1 : Int32))) fun v6 => (if v6 < (abI v4) then ((if (abI v4) < ((8 : Int32) - (v6 / (2 : Int32))) then (f_X7_stand_b62 G (0 : Int32) h) else (f_X7_stand_b62 G (-1 : Int32) h))) else (f_X7_stand_b62 G (1 : Int32) h))
abbrev rm_X7_votes : Room := { frames := 2, cells := 0, slots := 0, locals := 46 }
noncomputable def f_X7_votes_b37 (G : GE) (k5 : Nat → Int32 → Int32 → Int32 → Int32 → PH → Option (Int32 × PH)) (x0 : Nat) (x1 : Int32) (x2 : Int32) (x4 : Int32) (t0 : Int32) (t1 : Int32) (h : PH) : Option (Int32 × PH) :=
  k5 x0 x1 x2 (t0 + t1) (x4 + (1 : Int32)) h
noncomputable def f_X7_votes_b5_body (G : GE) (k5 : Nat → Int32 → Int32 → Int32 → Int32 → PH → Option (Int32 × PH)) (x0 : Nat) (x1 : Int32) (x2 : Int32) (x3 : Int32) (x4 : Int32) (h : PH) : Option (Int32 × PH) :=
  rd (gI 8 h x0 5) fun v1 => (if v1 ≤ x4 then (some (x3, h)) else (rd (isC 8 h x0) fun _ => bd (f_X7_stand G x0 x1 x4 h) fun v2 h => (if v2 = x2 then (rd (isC 8 h x0) fun _ => bd (f_X7_of G x0 x4 (4 : Int32) h) fun v3 h => f_X7_votes_b37 G k5 x0 x1 x2 x4 x3 v3 h) else (f_X7_votes_b37 G k5 x0 x1 x2 x4 x3 (0 : Int32) h))))
noncomputable def f_X7_votes_b5 (G : GE) (n : Nat) : Nat → Int32 → Int32 → Int32 → Int32 → PH → Option (Int32 × PH) := lp (fun _ _ _ _ _ _ => none) (f_X7_votes_b5_body G) n
noncomputable def f_X7_votes (G : GE) (x0 : Nat) (x1 : Int32) (x2 : Int32) (h : PH) : Option (Int32 × PH) :=
  f_X7_votes_b5 G LF x0 x1 x2 (0 : Int32) (0 : Int32) h
abbrev rm_X7_would : Room := { frames := 3, cells := 0, slots := 0, locals := 70 }
noncomputable def f_X7_would_b47 (G : GE) (t0 : Int32) (h : PH) : Option (Int32 × PH) :=
  z1 t0 (some (t0, h))
noncomputable def f_X7_would_b46 (G : GE)  (h : PH) : Option (Int32 × PH) :=
  f_X7_would_b47 G (0 : Int32) h
noncomputable def f_X7_would (G : GE) (x0 : Nat) (x1 : Int32) (h : PH) : Option (Int32 × PH) :=
  rd (isC 8 h x0) fun _ => bd (f_X7_votes G x0 x1 (1 : Int32) h) fun v1 h => rd (isC 8 h x0) fun _ => bd (f_X7_votes G x0 x1 (-1 : Int32) h) fun v2 h => rd (gR 8 h x0 8) fun v3 => rd (aI h v3 (((6 : Int32) * x1) + (2 : Int32))) fun v4 => (if (v1 + v2) < v4 then (f_X7_would_b46 G  h) else (rd (isC 8 h x0) fun _ => bd (f_X7_votes G x0 x1 (1 : Int32) h) fun v5 h => rd (isC 8 h x0) fun _ => bd (f_X7_votes G x0 x1 (-1 : Int32) h) fun v6 h => (if v5 ≤ v6 then (f_X7_would_b46 G  h) else (f_X7_would_b47 G (1 : Int32) h))))
abbrev rm_X7_vote : Room := { frames := 4, cells := 0, slots := 0, locals := 91 }
noncomputable def f_X7_vote_b144 (G : GE) (k54 : Nat → Int32 → Int32 → Int32 → PH → Option (Int32 × PH)) (x0 : Nat) (x1 : Int32) (x2 : Int32) (x3 : Int32) (h : PH) : Option (Int32 × PH) :=
  k54 x0 x1 x2 (x3 + (1 : Int32)) h
noncomputable def f_X7_vote_b115 (G : GE) (k54 : Nat → Int32 → Int32 → Int32 → PH → Option (Int32 × PH)) (x0 : Nat) (x1 : Int32) (x2 : Int32) (x3 : Int32) (x4 : Int32) (h : PH) : Option (Int32 × PH) :=
  (if x2 = (3 : Int32) then (rd (isC 8 h x0) fun _ => bd (f_X7_of G x0 x3 (4 : Int32) h) fun v11 h => rd (isC 8 h x0) fun _ => bd (f_X7_set G x0 x3 (4 : Int32) (mxI (0 : Int32) (mnI (9 : Int32) (v11 + x4))) h) fun _ h => f_X7_vote_b144 G k54 x0 x1 x2 x3 h) else (f_X7_vote_b144 G k54 x0 x1 x2 x3 h))
noncomputable def f_X7_vote_b86 (G : GE) (k54 : Nat → Int32 → Int32 → Int32 → PH → Option (Int32 × PH)) (x0 : Nat) (x1 : Int32) (x2 : Int32) (x3 : Int32) (x4 : Int32) (h : PH) : Option (Int32 × PH) :=
  (if x2 = (2 : Int32) then ((if x4 = (-1 : Int32) then (rd (isC 8 h x0) fun _ => bd (f_X7_of G x0 x3 (8 : Int32) h) fun v10 h => rd (isC 8 h x0) fun _ => bd (f_X7_set G x0 x3 (8 : Int32) (mxI (4 : Int32) v10) h) fun _ h => f_X7_vote_b115 G k54 x0 x1 x2 x3 x4 h) else (f_X7_vote_b115 G k54 x0 x1 x2 x3 x4 h))) else (f_X7_vote_b115 G k54 x0 x1 x2 x3 x4 h))
noncomputable def f_X7_vote_b54_body (G : GE) (k54 : Nat → Int32 → Int32 → Int32 → PH → Option (Int32 × PH)) (x0 : Nat) (x1 : Int32) (x2 : Int32) (x3 : Int32) (h : PH) : Option (Int32 × PH) :=
  rd (gI 8 h x0 5) fun v8 => (if v8 ≤ x3 then (some ((1 : Int32), h)) else (rd (isC 8 h x0) fun _ => bd (f_X7_stand G x0 x1 x3 h) fun v9 h => (if x2 = (1 : Int32) then ((if v9 = (1 : Int32) then (rd (isC 8 h x0) fun _ => bd (f_X7_oil G x0 x3 h) fun _ h => f_X7_vote_b86 G k54 x0 x1 x2 x3 v9 h) else (f_X7_vote_b86 G k54 x0 x1 x2 x3 v9 h))) else (f_X7_vote_b86 G k54 x0 x1 x2 x3 v9 h))))
noncomputable def f_X7_vote_b54 (G : GE) (n : Nat) : Nat → Int32 → Int32 → Int32 → PH → Option (Int32 × PH) := lp (fun _ _ _ _ _ => none) (f_X7_vote_b54_body G) n
noncomputable def f_X7_vote (G : GE) (x0 : Nat) (x1 : Int32) (h : PH) : Option (Int32 × PH) :=
  rd (gR 8 h x0 8) fun v1 => rd (aI h v1 (((6 : Int32) * x1) + (4 : Int32))) fun v2 => rd (aIs h v1 (((6 : Int32) * x1) + (4 : Int32)) (v2 + (1 : Int32))) fun h => rd (isC 8 h x0) fun _ => bd (f_X7_would G x0 x1 h) fun v3 h => (if v3 = 0 then (some ((0 : Int32), h)) else (rd (gR 8 h x0 8) fun v4 => rd (aI h v4 (((6 : Int32) * x1) + (5 : Int32))) fun v5 => rd (aIs h v4 (((6 : Int32) * x1) + (5 : Int32)) (v5 + (1 : Int32))) fun h => rd (gR 8 h x0 8) fun v6 => rd (aI h v6 (((6 : Int32) * x1) + (3 : Int32))) fun v7 => f_X7_vote_b54 G LF x0 x1 v7 (0 : Int32) h))
abbrev rm_X7_end : Room := { frames := 5, cells := 0, slots := 0, locals := 115 }
noncomputable def f_X7_end_b175 (G : GE) (x0 : Nat) (x1 : Int32) (h : PH) : Option (Int32 × PH) :=
  rd (gI 8 h x0 0) fun v21 => rd (sF 8 h x0 0 (.int (v21 + (1 : Int32)))) fun h => rd (gI 8 h x0 11) fun v22 => rd (sF 8 h x0 11 (.int (v22 + x1))) fun h => some (x1, h)
noncomputable def f_X7_end_b169 (G : GE) (k101 : Nat → Int32 → Int32 → PH → Option (Int32 × PH)) (x0 : Nat) (x1 : Int32) (x3 : Int32) (h : PH) : Option (Int32 × PH) :=
  k101 x0 x1 (x3 + (1 : Int32)) h
noncomputable def f_X7_end_b101_body (G : GE) (k101 : Nat → Int32 → Int32 → PH → Option (Int32 × PH)) (x0 : Nat) (x1 : Int32) (x3 : Int32) (h : PH) : Option (Int32 × PH) :=
  rd (gI 8 h x0 5) fun v14 => (if v14 ≤ x3 then (f_X7_end_b175 G x0 x1 h) else (rd (gR 8 h x0 4) fun v15 => rd (isC 8 h x0) fun _ => bd (f_X7_entry G x0 h) fun v16 h => rd (aZ h v15 v16) fun v17 => (if v17 = 0 then (f_X7_end_b175 G x0 x1 h) else (rd (isC 8 h x0) fun _ => bd (f_X7_of G x0 x3 (9 : Int32) h) fun v18 h => rd (isC 8 h x0) fun _ => bd (f_X7_set G x0 x3 (9 : Int32) (v18 + (1 : Int32)) h) fun _ h => rd (isC 8 h x0) fun _ => bd (f_X7_of G x0 x3 (9 : Int32) h) fun v19 h => (if (v19 - v19 / (2 : Int32) * (2 : Int32)) = (1 : Int32) then (rd (isC 8 h x0) fun _ => bd (f_X7_of G x0 x3 (5 : Int32) h) fun v20 h => rd (isC 8 h x0) fun _ => bd (f_X7_set G x0 x3 (5 : Int32) (mnI (9 : Int32) (v20 + (1 : Int32))) h) fun _ h => f_X7_end_b169 G k101 x0 x1 x3 h) else (f_X7_end_b169 G k101 x0 x1 x3 h))))))
noncomputable def f_X7_end_b101 (G : GE) (n : Nat) : Nat → Int32 → Int32 → PH → Option (Int32 × PH) := lp (fun _ _ _ _ => none) (f_X7_end_b101_body G) n
noncomputable def f_X7_end_b88 (G : GE) (k6 : Nat → Int32 → Int32 → Int32 → PH → Option (Int32 × PH)) (x0 : Nat) (x1 : Int32) (x2 : Int32) (x3 : Int32) (h : PH) : Option (Int32 × PH) :=
  k6 x0 x1 x2 (x3 + (1 : Int32)) h
noncomputable def f_X7_end_b6_body (G : GE) (k6 : Nat → Int32 → Int32 → Int32 → PH → Option (Int32 × PH)) (x0 : Nat) (x1 : Int32) (x2 : Int32) (x3 : Int32) (h : PH) : Option (Int32 × PH) :=
  rd (gI 8 h x0 9) fun v1 => (if v1 ≤ x3 then (rd (sF 8 h x0 9 (.int x2)) fun h => f_X7_end_b101 G LF x0 x1 (0 : Int32) h) else (rd (gR 8 h x0 10) fun v2 => rd (aI h v2 (((2 : Int32) * x3) + (1 : Int32))) fun v3 => rd (gI 8 h x0 0) fun v4 => (if v3 = v4 then (rd (gR 8 h x0 10) fun v11 => rd (aI h v11 ((2 : Int32) * x3)) fun v12 => rd (isC 8 h x0) fun _ => bd (f_X7_vote G x0 v12 h) fun v13 h => f_X7_end_b88 G k6 x0 (x1 + v13) x2 x3 h) else (rd (gR 8 h x0 10) fun v5 => rd (gR 8 h x0 10) fun v6 => rd (aI h v6 ((2 : Int32) * x3)) fun v7 => rd (aIs h v5 ((2 : Int32) * x2) v7) fun h => rd (gR 8 h x0 10) fun v8 => rd (gR 8 h x0 10) fun v9 => rd (aI h v9 (((2 : Int32) * x3) + (1 : Int32))) fun v10 => rd (aIs h v8 (((2 : Int32) * x2) + (1 : Int32)) v10) fun h => f_X7_end_b88 G k6 x0 x1 (x2 + (1 : Int32)) x3 h))))
noncomputable def f_X7_end_b6 (G : GE) (n : Nat) : Nat → Int32 → Int32 → Int32 → PH → Option (Int32 × PH) := lp (fun _ _ _ _ _ => none) (f_X7_end_b6_body G) n
noncomputable def f_X7_end (G : GE) (x0 : Nat) (h : PH) : Option (Int32 × PH) :=
  f_X7_end_b6 G LF x0 (0 : Int32) (0 : Int32) (0 : Int32) h
abbrev rm_X7_pass : Room := { frames := 6, cells := 0, slots := 0, locals := 138 }
noncomputable def f_X7_pass (G : GE) (x0 : Nat) (h : PH) : Option (Int32 × PH) :=
  rd (isC 8 h x0) fun _ => bd (f_X7_turn G x0 h) fun _ h => rd (isC 8 h x0) fun _ => bd (f_X7_end G x0 h) fun v1 h => some (v1, h)
abbrev rm_X8_init : Room := { frames := 2, cells := 14, slots := 712, locals := 40 }
noncomputable def f_X8_init (G : GE) (x0 : Nat) (h : PH) : Option (Unit × PH) :=
  nw h (.inr (8, [.int 0, .int 0, .null, .null, .null, .int 0, .null, .int 0, .null, .int 0, .null, .int 0])) fun q1 h => bd (f_X7_init G q1 h) fun _ h => rd (sF 9 h x0 1 (.ref q1)) fun h => nw h (.inr (8, [.int 0, .int 0, .null, .null, .null, .int 0, .null, .int 0, .null, .int 0, .null, .int 0])) fun q2 h => bd (f_X7_init G q2 h) fun _ h => rd (sF 9 h x0 2 (.ref q2)) fun h => some ((), h)
abbrev rm_X8_thrown : Room := { frames := 0, cells := 0, slots := 0, locals := 0 }
noncomputable def f_X8_thrown (G : GE) (x0 : Nat) (h : PH) : Option (Int32 × PH) :=
  rd (gI 9 h x0 0) fun v1 => some (v1, h)
abbrev rm_X8_no : Room := { frames := 0, cells := 0, slots := 0, locals := 0 }
noncomputable def f_X8_no (G : GE) (x0 : Nat) (x1 : Int32) (h : PH) : Option (Int32 × PH) :=
  rd (sF 9 h x0 0 (.int x1)) fun h => some ((0 : Int32), h)
abbrev rm_X8_isIn : Room := { frames := 0, cells := 0, slots := 0, locals := 0 }
noncomputable def f_X8_isIn_b15 (G : GE) (t0 : Int32) (h : PH) : Option (Int32 × PH) :=
  z1 t0 (some (t0, h))
noncomputable def f_X8_isIn_b14 (G : GE)  (h : PH) : Option (Int32 × PH) :=
  f_X8_isIn_b15 G (0 : Int32) h
noncomputable def f_X8_isIn (G : GE) (x0 : Int32) (x1 : Int32) (x2 : Int32) (h : PH) : Option (Int32 × PH) :=
  (if x0 < x1 then (f_X8_isIn_b14 G  h) else ((if x2 < x0 then (f_X8_isIn_b14 G  h) else (f_X8_isIn_b15 G (1 : Int32) h))))
abbrev rm_X8_layWind : Room := { frames := 0, cells := 0, slots := 0, locals := 0 }
noncomputable def f_X8_layWind (G : GE) (x0 : Nat) (x1 : Int32) (x2 : Int32) (x3 : Int32) (x4 : Int32) (h : PH) : Option (Unit × PH) :=
  rd (gR 9 h x0 1) fun v1 => rd (gR 8 h v1 2) fun v2 => rd (aIs h v2 x1 x2) fun h => rd (gR 9 h x0 1) fun v3 => rd (gR 8 h v3 3) fun v4 => rd (aIs h v4 x1 x3) fun h => rd (gR 9 h x0 1) fun v5 => rd (gR 8 h v5 4) fun v6 => rd (aZs h v6 x1 x4) fun h => some ((), h)
abbrev rm_X8_beginWind : Room := { frames := 1, cells := 0, slots := 0, locals := 24 }
noncomputable def f_X8_beginWind_b25 (G : GE) (x0 : Nat) (h : PH) : Option (Int32 × PH) :=
  rd (isC 9 h x0) fun _ => bd (f_X8_no G x0 (1 : Int32) h) fun v6 h => some (v6, h)
noncomputable def f_X8_beginWind (G : GE) (x0 : Nat) (x1 : Int32) (x2 : Int32) (x3 : Int32) (h : PH) : Option (Int32 × PH) :=
  rd (sF 9 h x0 0 (.int (0 : Int32))) fun h => bd (f_X8_isIn G x1 (0 : Int32) (15 : Int32) h) fun v1 h => (if v1 = 0 then (f_X8_beginWind_b25 G x0 h) else (bd (f_X8_isIn G x2 (0 : Int32) (9 : Int32) h) fun v2 h => (if v2 = 0 then (f_X8_beginWind_b25 G x0 h) else (rd (gR 9 h x0 1) fun v3 => rd (gI 8 h v3 1) fun v4 => rd (isC 9 h x0) fun _ => bd (f_X8_layWind G x0 (0 : Int32) x1 x2 x3 h) fun _ h => rd (gR 9 h x0 1) fun v5 => rd (sF 8 h v5 1 (.int (1 : Int32))) fun h => some (v4, h)))))
abbrev rm_X8_addWind : Room := { frames := 1, cells := 0, slots := 0, locals := 24 }
noncomputable def f_X8_addWind_b25 (G : GE) (x0 : Nat) (h : PH) : Option (Int32 × PH) :=
  rd (isC 9 h x0) fun _ => bd (f_X8_no G x0 (1 : Int32) h) fun v12 h => some (v12, h)
noncomputable def f_X8_addWind (G : GE) (x0 : Nat) (x1 : Int32) (x2 : Int32) (x3 : Int32) (h : PH) : Option (Int32 × PH) :=
  rd (sF 9 h x0 0 (.int (0 : Int32))) fun h => bd (f_X8_isIn G x1 (0 : Int32) (15 : Int32) h) fun v1 h => (if v1 = 0 then (f_X8_addWind_b25 G x0 h) else (bd (f_X8_isIn G x2 (0 : Int32) (9 : Int32) h) fun v2 h => (if v2 = 0 then (f_X8_addWind_b25 G x0 h) else (rd (gR 9 h x0 1) fun v3 => rd (gI 8 h v3 1) fun v4 => (if v4 = (24 : Int32) then (rd (isC 9 h x0) fun _ => bd (f_X8_no G x0 (2 : Int32) h) fun v11 h => some (v11, h)) else (rd (gR 9 h x0 1) fun v5 => rd (gI 8 h v5 1) fun v6 => rd (isC 9 h x0) fun _ => bd (f_X8_layWind G x0 v6 x1 x2 x3 h) fun _ h => rd (gR 9 h x0 1) fun v7 => rd (gI 8 h v7 1) fun v8 => rd (sF 8 h v7 1 (.int (v8 + (1 : Int32)))) fun h => rd (gR 9 h x0 1) fun v9 => rd (gI 8 h v9 1) fun v10 => some (v10, h)))))))
abbrev rm_X8_windTold : Room := { frames := 0, cells := 0, slots := 0, locals := 0 }
noncomputable def f_X8_windTold_b50 (G : GE) (t0 : Int32) (h : PH) : Option (Int32 × PH) :=
  some (t0, h)
noncomputable def f_X8_windTold (G : GE) (x0 : Nat) (x1 : Int32) (x2 : Int32) (h : PH) : Option (Int32 × PH) :=
  (if x2 = 0 then (rd (gR 9 h x0 1) fun v7 => rd (gR 8 h v7 2) fun v8 => rd (aI h v8 x1) fun v9 => f_X8_windTold_b50 G v9 h) else ((if x2 = (1 : Int32) then (rd (gR 9 h x0 1) fun v4 => rd (gR 8 h v4 3) fun v5 => rd (aI h v5 x1) fun v6 => f_X8_windTold_b50 G v6 h) else (rd (gR 9 h x0 1) fun v1 => rd (gR 8 h v1 4) fun v2 => rd (aZ h v2 x1) fun v3 => (if v3 = 0 then (f_X8_windTold_b50 G (0 : Int32) h) else (f_X8_windTold_b50 G (1 : Int32) h))))))
abbrev rm_X8_wind : Room := { frames := 1, cells := 0, slots := 0, locals := 22 }
noncomputable def f_X8_wind (G : GE) (x0 : Nat) (x1 : Int32) (x2 : Int32) (h : PH) : Option (Int32 × PH) :=
  rd (sF 9 h x0 0 (.int (0 : Int32))) fun h => (if 0 ≤ x1 then (bd (f_X8_isIn G x2 (0 : Int32) (2 : Int32) h) fun v1 h => (if v1 = 0 then (rd (isC 9 h x0) fun _ => bd (f_X8_no G x0 (2 : Int32) h) fun v5 h => some (v5, h)) else (rd (gR 9 h x0 1) fun v2 => rd (gI 8 h v2 1) fun v3 => nz v3 <| rd (isC 9 h x0) fun _ => bd (f_X8_windTold G x0 (x1 - x1 / v3 * v3) x2 h) fun v4 h => some (v4, h)))) else (rd (isC 9 h x0) fun _ => bd (f_X8_no G x0 (1 : Int32) h) fun v6 h => some (v6, h)))
abbrev rm_X8_setUp : Room := { frames := 1, cells := 1, slots := 10, locals := 60 }
noncomputable def f_X8_setUp_b68 (G : GE) (x0 : Nat) (h : PH) : Option (Int32 × PH) :=
  rd (isC 9 h x0) fun _ => bd (f_X8_no G x0 (1 : Int32) h) fun v9 h => some (v9, h)
noncomputable def f_X8_setUp_b146 (G : GE) (k96 : Nat → Int32 → Int32 → Int32 → Int32 → Int32 → Int32 → Int32 → Int32 → PH → Option (Int32 × PH)) (x0 : Nat) (x1 : Int32) (x2 : Int32) (x3 : Int32) (x4 : Int32) (x5 : Int32) (x6 : Int32) (x8 : Int32) (t0 : Int32) (h : PH) : Option (Int32 × PH) :=
  k96 x0 x1 x2 x3 x4 x5 x6 t0 (x8 + (1 : Int32)) h
noncomputable def f_X8_setUp_b145 (G : GE) (k96 : Nat → Int32 → Int32 → Int32 → Int32 → Int32 → Int32 → Int32 → Int32 → PH → Option (Int32 × PH)) (x0 : Nat) (x1 : Int32) (x2 : Int32) (x3 : Int32) (x4 : Int32) (x5 : Int32) (x6 : Int32) (x8 : Int32) (h : PH) : Option (Int32 × PH) :=
  f_X8_setUp_b146 G k96 x0 x1 x2 x3 x4 x5 x6 x8 (0 : Int32) h
noncomputable def f_X8_setUp_b141 (G : GE) (k96 : Nat → Int32 → Int32 → Int32 → Int32 → Int32 → Int32 → Int32 → Int32 → PH → Option (Int32 × PH)) (x0 : Nat) (x1 : Int32) (x2 : Int32) (x3 : Int32) (x4 : Int32) (x5 : Int32) (x6 : Int32) (x8 : Int32) (h : PH) : Option (Int32 × PH) :=
  f_X8_setUp_b146 G k96 x0 x1 x2 x3 x4 x5 x6 x8 (1 : Int32) h
noncomputable def f_X8_setUp_b96_body (G : GE) (k96 : Nat → Int32 → Int32 → Int32 → Int32 → Int32 → Int32 → Int32 → Int32 → PH → Option (Int32 × PH)) (x0 : Nat) (x1 : Int32) (x2 : Int32) (x3 : Int32) (x4 : Int32) (x5 : Int32) (x6 : Int32) (x7 : Int32) (x8 : Int32) (h : PH) : Option (Int32 × PH) :=
  rd (gR 9 h x0 1) fun v10 => rd (gI 8 h v10 5) fun v11 => (if v11 ≤ x8 then ((if x7 = 0 then (rd (isC 9 h x0) fun _ => bd (f_X8_no G x0 (2 : Int32) h) fun v21 h => some (v21, h)) else (nw h (cI 10) fun q12 h => rd (aIs h q12 (0 : Int32) x1) fun h => rd (aIs h q12 (1 : Int32) x2) fun h => rd (aIs h q12 (2 : Int32) x3) fun h => rd (aIs h q12 (3 : Int32) x4) fun h => rd (aIs h q12 (4 : Int32) x5) fun h => rd (aIs h q12 (5 : Int32) (0 : Int32)) fun h => rd (aIs h q12 (6 : Int32) x6) fun h => rd (aIs h q12 (7 : Int32) (0 : Int32)) fun h => rd (aIs h q12 (8 : Int32) (0 : Int32)) fun h => rd (aIs h q12 (9 : Int32) (0 : Int32)) fun h => rd (gR 9 h x0 1) fun v13 => rd (gR 8 h v13 6) fun v14 => rd (gR 9 h x0 1) fun v15 => rd (gI 8 h v15 5) fun v16 => rd (cpI 0 h q12 (0 : Int32) v14 ((10 : Int32) * v16) (10 : Int32)) fun h => rd (gR 9 h x0 1) fun v17 => rd (gI 8 h v17 5) fun v18 => rd (sF 8 h v17 5 (.int (v18 + (1 : Int32)))) fun h => rd (gR 9 h x0 1) fun v19 => rd (gI 8 h v19 5) fun v20 => some ((v20 - (1 : Int32)), h)))) else ((if x7 = 0 then (f_X8_setUp_b145 G k96 x0 x1 x2 x3 x4 x5 x6 x8 h) else (rd (gR 9 h x0 1) fun v22 => rd (isC 8 h v22) fun _ => bd (f_X7_of G v22 x8 (0 : Int32) h) fun v23 h => (if v23 = x1 then (rd (gR 9 h x0 1) fun v24 => rd (isC 8 h v24) fun _ => bd (f_X7_of G v24 x8 (1 : Int32) h) fun v25 h => (if v25 = x2 then (f_X8_setUp_b145 G k96 x0 x1 x2 x3 x4 x5 x6 x8 h) else (f_X8_setUp_b141 G k96 x0 x1 x2 x3 x4 x5 x6 x8 h))) else (f_X8_setUp_b141 G k96 x0 x1 x2 x3 x4 x5 x6 x8 h))))))
noncomputable def f_X8_setUp_b96 (G : GE) (n : Nat) : Nat → Int32 → Int32 → Int32 → Int32 → Int32 → Int32 → Int32 → Int32 → PH → Option (Int32 × PH) := lp (fun _ _ _ _ _ _ _ _ _ _ => none) (f_X8_setUp_b96_body G) n
noncomputable def f_X8_setUp_b91 (G : GE) (x0 : Nat) (x1 : Int32) (x2 : Int32) (x3 : Int32) (x4 : Int32) (x5 : Int32) (x6 : Int32) (t0 : Int32) (h : PH) : Option (Int32 × PH) :=
  f_X8_setUp_b96 G LF x0 x1 x2 x3 x4 x5 x6 t0 (0 : Int32) h
noncomputable def f_X8_setUp (G : GE) (x0 : Nat) (x1 : Int32) (x2 : Int32) (x3 : Int32) (x4 : Int32) (x5 : Int32) (x6 : Int32) (h : PH) : Option (Int32 × PH) :=
  rd (sF 9 h x0 0 (.int (0 : Int32))) fun h => bd (f_X8_isIn G x1 (0 : Int32) (11 : Int32) h) fun v1 h => (if v1 = 0 then (f_X8_setUp_b68 G x0 h) else (bd (f_X8_isIn G x2 (0 : Int32) (11 : Int32) h) fun v2 h => (if v2 = 0 then (f_X8_setUp_b68 G x0 h) else (bd (f_X8_isIn G x3 (1 : Int32) (9 : Int32) h) fun v3 h => (if v3 = 0 then (f_X8_setUp_b68 G x0 h) else (bd (f_X8_isIn G x4 (1 : Int32) (9 : Int32) h) fun v4 h => (if v4 = 0 then (f_X8_setUp_b68 G x0 h) else (bd (f_X8_isIn G x5 (0 : Int32) (9 : Int32) h) fun v5 h => (if v5 = 0 then (f_X8_setUp_b68 G x0 h) else (bd (f_X8_isIn G x6 (0 : Int32) (15 : Int32) h) fun v6 h => (if v6 = 0 then (f_X8_setUp_b68 G x0 h) else (rd (gR 9 h x0 1) fun v7 => rd (gI 8 h v7 5) fun v8 => (if (16 : Int32) ≤ v8 then (f_X8_setUp_b91 G x0 x1 x2 x3 x4 x5 x6 (0 : Int32) h) else (f_X8_setUp_b91 G x0 x1 x2 x3 x4 x5 x6 (1 : Int32) h))))))))))))))
abbrev rm_X8_isVane : Room := { frames := 1, cells := 0, slots := 0, locals := 22 }
noncomputable def f_X8_isVane (G : GE) (x0 : Nat) (x1 : Int32) (h : PH) : Option (Int32 × PH) :=
  rd (gR 9 h x0 1) fun v1 => rd (gI 8 h v1 5) fun v2 => bd (f_X8_isIn G x1 (0 : Int32) (v2 - (1 : Int32)) h) fun v3 h => z1 v3 (some (v3, h))
abbrev rm_X8_oil : Room := { frames := 2, cells := 0, slots := 0, locals := 44 }
noncomputable def f_X8_oil (G : GE) (x0 : Nat) (x1 : Int32) (h : PH) : Option (Int32 × PH) :=
  rd (sF 9 h x0 0 (.int (0 : Int32))) fun h => rd (isC 9 h x0) fun _ => bd (f_X8_isVane G x0 x1 h) fun v1 h => (if v1 = 0 then (rd (isC 9 h x0) fun _ => bd (f_X8_no G x0 (1 : Int32) h) fun v5 h => some (v5, h)) else (rd (gR 9 h x0 1) fun v2 => rd (isC 8 h v2) fun _ => bd (f_X7_of G v2 x1 (5 : Int32) h) fun v3 h => rd (gR 9 h x0 1) fun v4 => rd (isC 8 h v4) fun _ => bd (f_X7_oil G v4 x1 h) fun _ h => some (v3, h)))
abbrev rm_X8_turn : Room := { frames := 2, cells := 0, slots := 0, locals := 43 }
noncomputable def f_X8_turn (G : GE) (x0 : Nat) (x1 : Int32) (x2 : Int32) (h : PH) : Option (Int32 × PH) :=
  rd (sF 9 h x0 0 (.int (0 : Int32))) fun h => rd (isC 9 h x0) fun _ => bd (f_X8_isVane G x0 x1 h) fun v1 h => (if v1 = 0 then (rd (isC 9 h x0) fun _ => bd (f_X8_no G x0 (1 : Int32) h) fun v11 h => some (v11, h)) else (bd (f_X8_isIn G x2 (0 : Int32) (15 : Int32) h) fun v2 h => (if v2 = 0 then (rd (isC 9 h x0) fun _ => bd (f_X8_no G x0 (2 : Int32) h) fun v10 h => some (v10, h)) else (rd (gR 9 h x0 1) fun v3 => rd (isC 8 h v3) fun _ => bd (f_X7_of G v3 x1 (8 : Int32) h) fun v4 h => (if v4 ≤ 0 then (rd (gR 9 h x0 1) fun v5 => rd (isC 8 h v5) fun _ => bd (f_X7_of G v5 x1 (6 : Int32) h) fun v6 h => rd (gR 9 h x0 1) fun v7 => rd (isC 8 h v7) fun _ => bd (f_X7_set G v7 x1 (6 : Int32) x2 h) fun _ h => rd (gR 9 h x0 1) fun v8 => rd (isC 8 h v8) fun _ => bd (f_X7_set G v8 x1 (7 : Int32) (0 : Int32) h) fun _ h => some (v6, h)) else (rd (isC 9 h x0) fun _ => bd (f_X8_no G x0 (3 : Int32) h) fun v9 h => some (v9, h)))))))
abbrev rm_X8_partyOf : Room := { frames := 1, cells := 0, slots := 0, locals := 22 }
noncomputable def f_X8_partyOf (G : GE) (x0 : Nat) (x1 : Int32) (h : PH) : Option (Int32 × PH) :=
  rd (gR 9 h x0 1) fun v1 => rd (isC 8 h v1) fun _ => bd (f_X7_of G v1 x1 (6 : Int32) h) fun v2 h => some ((((v2 + (2 : Int32)) / (4 : Int32)) - ((v2 + (2 : Int32)) / (4 : Int32)) / (4 : Int32) * (4 : Int32)), h)
abbrev rm_X8_vaneTold : Room := { frames := 3, cells := 0, slots := 0, locals := 70 }
noncomputable def f_X8_vaneTold_b57 (G : GE) (t0 : Int32) (h : PH) : Option (Int32 × PH) :=
  some (t0, h)
noncomputable def f_X8_vaneTold (G : GE) (x0 : Nat) (x1 : Int32) (x2 : Int32) (h : PH) : Option (Int32 × PH) :=
  (if (9 : Int32) ≤ x2 then ((if x2 = (9 : Int32) then (rd (isC 9 h x0) fun _ => bd (f_X8_partyOf G x0 x1 h) fun v5 h => f_X8_vaneTold_b57 G v5 h) else ((if x2 = (10 : Int32) then (rd (gR 9 h x0 1) fun v3 => rd (isC 8 h v3) fun _ => bd (f_X7_windAt G v3 x1 h) fun v4 h => f_X8_vaneTold_b57 G v4 h) else (rd (gR 9 h x0 1) fun v1 => rd (isC 8 h v1) fun _ => bd (f_X7_lee G v1 x1 h) fun v2 h => f_X8_vaneTold_b57 G v2 h))))) else (rd (gR 9 h x0 1) fun v6 => rd (isC 8 h v6) fun _ => bd (f_X7_of G v6 x1 x2 h) fun v7 h => f_X8_vaneTold_b57 G v7 h))
abbrev rm_X8_vane : Room := { frames := 4, cells := 0, slots := 0, locals := 92 }
noncomputable def f_X8_vane_b37 (G : GE) (t0 : Int32) (h : PH) : Option (Int32 × PH) :=
  some (t0, h)
noncomputable def f_X8_vane_b32 (G : GE) (x0 : Nat) (h : PH) : Option (Int32 × PH) :=
  rd (isC 9 h x0) fun _ => bd (f_X8_no G x0 (1 : Int32) h) fun v4 h => f_X8_vane_b37 G v4 h
noncomputable def f_X8_vane (G : GE) (x0 : Nat) (x1 : Int32) (x2 : Int32) (h : PH) : Option (Int32 × PH) :=
  rd (sF 9 h x0 0 (.int (0 : Int32))) fun h => rd (isC 9 h x0) fun _ => bd (f_X8_isVane G x0 x1 h) fun v1 h => (if v1 = 0 then (f_X8_vane_b32 G x0 h) else (bd (f_X8_isIn G x2 (0 : Int32) (11 : Int32) h) fun v2 h => (if v2 = 0 then (f_X8_vane_b32 G x0 h) else (rd (isC 9 h x0) fun _ => bd (f_X8_vaneTold G x0 x1 x2 h) fun v3 h => f_X8_vane_b37 G v3 h))))
abbrev rm_X8_difference : Room := { frames := 1, cells := 0, slots := 0, locals := 22 }
noncomputable def f_X8_difference_b38 (G : GE) (t0 : Int32) (h : PH) : Option (Int32 × PH) :=
  some (t0, h)
noncomputable def f_X8_difference_b33 (G : GE) (x0 : Nat) (h : PH) : Option (Int32 × PH) :=
  rd (isC 9 h x0) fun _ => bd (f_X8_no G x0 (1 : Int32) h) fun v4 h => f_X8_difference_b38 G v4 h
noncomputable def f_X8_difference (G : GE) (x0 : Nat) (x1 : Int32) (x2 : Int32) (h : PH) : Option (Int32 × PH) :=
  rd (sF 9 h x0 0 (.int (0 : Int32))) fun h => bd (f_X8_isIn G x1 (0 : Int32) (15 : Int32) h) fun v1 h => (if v1 = 0 then (f_X8_difference_b33 G x0 h) else (bd (f_X8_isIn G x2 (0 : Int32) (15 : Int32) h) fun v2 h => (if v2 = 0 then (f_X8_difference_b33 G x0 h) else (bd (f_X8_apart G x1 x2 h) fun v3 h => f_X8_difference_b38 G v3 h))))
abbrev rm_X8_move : Room := { frames := 1, cells := 1, slots := 6, locals := 60 }
noncomputable def f_X8_move_b45 (G : GE) (x0 : Nat) (h : PH) : Option (Int32 × PH) :=
  rd (isC 9 h x0) fun _ => bd (f_X8_no G x0 (1 : Int32) h) fun v17 h => some (v17, h)
noncomputable def f_X8_move (G : GE) (x0 : Nat) (x1 : Int32) (x2 : Int32) (x3 : Int32) (x4 : Int32) (h : PH) : Option (Int32 × PH) :=
  rd (sF 9 h x0 0 (.int (0 : Int32))) fun h => bd (f_X8_isIn G x1 (0 : Int32) (15 : Int32) h) fun v1 h => (if v1 = 0 then (f_X8_move_b45 G x0 h) else (bd (f_X8_isIn G x2 (0 : Int32) (7 : Int32) h) fun v2 h => (if v2 = 0 then (f_X8_move_b45 G x0 h) else (bd (f_X8_isIn G x3 (0 : Int32) (99 : Int32) h) fun v3 h => (if v3 = 0 then (f_X8_move_b45 G x0 h) else (bd (f_X8_isIn G x4 (0 : Int32) (3 : Int32) h) fun v4 h => (if v4 = 0 then (f_X8_move_b45 G x0 h) else (rd (gR 9 h x0 1) fun v5 => rd (gI 8 h v5 7) fun v6 => (if v6 = (12 : Int32) then (rd (isC 9 h x0) fun _ => bd (f_X8_no G x0 (2 : Int32) h) fun v16 h => some (v16, h)) else (nw h (cI 6) fun q7 h => rd (aIs h q7 (0 : Int32) x1) fun h => rd (aIs h q7 (1 : Int32) x2) fun h => rd (aIs h q7 (2 : Int32) x3) fun h => rd (aIs h q7 (3 : Int32) x4) fun h => rd (aIs h q7 (4 : Int32) (0 : Int32)) fun h => rd (aIs h q7 (5 : Int32) (0 : Int32)) fun h => rd (gR 9 h x0 1) fun v8 => rd (gR 8 h v8 8) fun v9 => rd (gR 9 h x0 1) fun v10 => rd (gI 8 h v10 7) fun v11 => rd (cpI 0 h q7 (0 : Int32) v9 ((6 : Int32) * v11) (6 : Int32)) fun h => rd (gR 9 h x0 1) fun v12 => rd (gI 8 h v12 7) fun v13 => rd (sF 8 h v12 7 (.int (v13 + (1 : Int32)))) fun h => rd (gR 9 h x0 1) fun v14 => rd (gI 8 h v14 7) fun v15 => some ((v15 - (1 : Int32)), h)))))))))))
abbrev rm_X8_isMotion : Room := { frames := 1, cells := 0, slots := 0, locals := 22 }
noncomputable def f_X8_isMotion (G : GE) (x0 : Nat) (x1 : Int32) (h : PH) : Option (Int32 × PH) :=
  rd (gR 9 h x0 1) fun v1 => rd (gI 8 h v1 7) fun v2 => bd (f_X8_isIn G x1 (0 : Int32) (v2 - (1 : Int32)) h) fun v3 h => z1 v3 (some (v3, h))
abbrev rm_X8_put : Room := { frames := 2, cells := 0, slots := 0, locals := 43 }
noncomputable def f_X8_put (G : GE) (x0 : Nat) (x1 : Int32) (x2 : Int32) (h : PH) : Option (Int32 × PH) :=
  rd (sF 9 h x0 0 (.int (0 : Int32))) fun h => rd (isC 9 h x0) fun _ => bd (f_X8_isMotion G x0 x1 h) fun v1 h => (if v1 = 0 then (rd (isC 9 h x0) fun _ => bd (f_X8_no G x0 (1 : Int32) h) fun v21 h => some (v21, h)) else (rd (gR 9 h x0 1) fun v2 => rd (gI 8 h v2 0) fun v3 => bd (f_X8_isIn G x2 v3 (2000 : Int32) h) fun v4 h => (if v4 = 0 then (rd (isC 9 h x0) fun _ => bd (f_X8_no G x0 (2 : Int32) h) fun v20 h => some (v20, h)) else (rd (gR 9 h x0 1) fun v5 => rd (gI 8 h v5 9) fun v6 => (if v6 = (20 : Int32) then (rd (isC 9 h x0) fun _ => bd (f_X8_no G x0 (3 : Int32) h) fun v19 h => some (v19, h)) else (rd (gR 9 h x0 1) fun v7 => rd (gR 8 h v7 10) fun v8 => rd (gR 9 h x0 1) fun v9 => rd (gI 8 h v9 9) fun v10 => rd (aIs h v8 ((2 : Int32) * v10) x1) fun h => rd (gR 9 h x0 1) fun v11 => rd (gR 8 h v11 10) fun v12 => rd (gR 9 h x0 1) fun v13 => rd (gI 8 h v13 9) fun v14 => rd (aIs h v12 (((2 : Int32) * v14) + (1 : Int32)) x2) fun h => rd (gR 9 h x0 1) fun v15 => rd (gI 8 h v15 9) fun v16 => rd (sF 8 h v15 9 (.int (v16 + (1 : Int32)))) fun h => rd (gR 9 h x0 1) fun v17 => rd (gI 8 h v17 9) fun v18 => some (v18, h)))))))
abbrev rm_X8_motionTold : Room := { frames := 4, cells := 0, slots := 0, locals := 91 }
noncomputable def f_X8_motionTold_b41 (G : GE) (t0 : Nat) (t1 : Int32) (t2 : Int32) (h : PH) : Option (Int32 × PH) :=
  rd (isC 8 h t0) fun _ => bd (f_X7_votes G t0 t1 t2 h) fun v10 h => some (v10, h)
noncomputable def f_X8_motionTold_b86 (G : GE) (t0 : Int32) (h : PH) : Option (Int32 × PH) :=
  some (t0, h)
noncomputable def f_X8_motionTold (G : GE) (x0 : Nat) (x1 : Int32) (x2 : Int32) (h : PH) : Option (Int32 × PH) :=
  (if (4 : Int32) ≤ x2 then ((if (6 : Int32) ≤ x2 then ((if x2 = (6 : Int32) then (rd (gR 9 h x0 1) fun v4 => rd (isC 8 h v4) fun _ => bd (f_X7_would G v4 x1 h) fun v5 h => (if v5 = 0 then (f_X8_motionTold_b86 G (0 : Int32) h) else (f_X8_motionTold_b86 G (1 : Int32) h))) else (rd (gR 9 h x0 1) fun v1 => rd (gR 8 h v1 8) fun v2 => rd (aI h v2 ((((6 : Int32) * x1) + x2) - (3 : Int32))) fun v3 => f_X8_motionTold_b86 G v3 h))) else (rd (gR 9 h x0 1) fun v6 => (if x2 = (4 : Int32) then (f_X8_motionTold_b41 G v6 x1 (1 : Int32) h) else (f_X8_motionTold_b41 G v6 x1 (-1 : Int32) h))))) else (rd (gR 9 h x0 1) fun v7 => rd (gR 8 h v7 8) fun v8 => rd (aI h v8 (((6 : Int32) * x1) + x2)) fun v9 => some (v9, h)))
abbrev rm_X8_motion : Room := { frames := 5, cells := 0, slots := 0, locals := 113 }
noncomputable def f_X8_motion_b37 (G : GE) (t0 : Int32) (h : PH) : Option (Int32 × PH) :=
  some (t0, h)
noncomputable def f_X8_motion_b32 (G : GE) (x0 : Nat) (h : PH) : Option (Int32 × PH) :=
  rd (isC 9 h x0) fun _ => bd (f_X8_no G x0 (1 : Int32) h) fun v4 h => f_X8_motion_b37 G v4 h
noncomputable def f_X8_motion (G : GE) (x0 : Nat) (x1 : Int32) (x2 : Int32) (h : PH) : Option (Int32 × PH) :=
  rd (sF 9 h x0 0 (.int (0 : Int32))) fun h => rd (isC 9 h x0) fun _ => bd (f_X8_isMotion G x0 x1 h) fun v1 h => (if v1 = 0 then (f_X8_motion_b32 G x0 h) else (bd (f_X8_isIn G x2 (0 : Int32) (8 : Int32) h) fun v2 h => (if v2 = 0 then (f_X8_motion_b32 G x0 h) else (rd (isC 9 h x0) fun _ => bd (f_X8_motionTold G x0 x1 x2 h) fun v3 h => f_X8_motion_b37 G v3 h))))
abbrev rm_X8_stand : Room := { frames := 2, cells := 0, slots := 0, locals := 46 }
noncomputable def f_X8_stand_b38 (G : GE) (t0 : Int32) (h : PH) : Option (Int32 × PH) :=
  some (t0, h)
noncomputable def f_X8_stand_b33 (G : GE) (x0 : Nat) (h : PH) : Option (Int32 × PH) :=
  rd (isC 9 h x0) fun _ => bd (f_X8_no G x0 (1 : Int32) h) fun v5 h => f_X8_stand_b38 G v5 h
noncomputable def f_X8_stand (G : GE) (x0 : Nat) (x1 : Int32) (x2 : Int32) (h : PH) : Option (Int32 × PH) :=
  rd (sF 9 h x0 0 (.int (0 : Int32))) fun h => rd (isC 9 h x0) fun _ => bd (f_X8_isMotion G x0 x1 h) fun v1 h => (if v1 = 0 then (f_X8_stand_b33 G x0 h) else (rd (isC 9 h x0) fun _ => bd (f_X8_isVane G x0 x2 h) fun v2 h => (if v2 = 0 then (f_X8_stand_b33 G x0 h) else (rd (gR 9 h x0 1) fun v3 => rd (isC 8 h v3) fun _ => bd (f_X7_stand G v3 x1 x2 h) fun v4 h => f_X8_stand_b38 G v4 h))))
abbrev rm_X8_pass : Room := { frames := 7, cells := 0, slots := 0, locals := 158 }
noncomputable def f_X8_pass_b46_body (G : GE) (k46 : Nat → Int32 → Int32 → Int32 → PH → Option (Int32 × PH)) (x0 : Nat) (x1 : Int32) (x2 : Int32) (x3 : Int32) (h : PH) : Option (Int32 × PH) :=
  (if x1 ≤ x3 then (some (x2, h)) else (rd (gR 9 h x0 1) fun v6 => rd (isC 8 h v6) fun _ => bd (f_X7_pass G v6 h) fun v7 h => k46 x0 x1 (x2 + v7) (x3 + (1 : Int32)) h))
noncomputable def f_X8_pass_b46 (G : GE) (n : Nat) : Nat → Int32 → Int32 → Int32 → PH → Option (Int32 × PH) := lp (fun _ _ _ _ _ => none) (f_X8_pass_b46_body G) n
noncomputable def f_X8_pass (G : GE) (x0 : Nat) (x1 : Int32) (h : PH) : Option (Int32 × PH) :=
  rd (sF 9 h x0 0 (.int (0 : Int32))) fun h => bd (f_X8_isIn G x1 (1 : Int32) (100 : Int32) h) fun v1 h => (if v1 = 0 then (rd (isC 9 h x0) fun _ => bd (f_X8_no G x0 (1 : Int32) h) fun v5 h => some (v5, h)) else (rd (gR 9 h x0 1) fun v2 => rd (gI 8 h v2 0) fun v3 => (if (v3 + x1) ≤ (2000 : Int32) then (f_X8_pass_b46 G LF x0 x1 (0 : Int32) (0 : Int32) h) else (rd (isC 9 h x0) fun _ => bd (f_X8_no G x0 (2 : Int32) h) fun v4 h => some (v4, h)))))
abbrev rm_X8_counted : Room := { frames := 3, cells := 1, slots := 9, locals := 70 }
noncomputable def f_X8_counted_b100 (G : GE) (k10 : Nat → Int32 → Int32 → Int32 → Int32 → Int32 → PH → Option (Int32 × PH)) (x0 : Nat) (x1 : Int32) (x2 : Int32) (x3 : Int32) (x5 : Int32) (t0 : Int32) (t1 : Int32) (h : PH) : Option (Int32 × PH) :=
  k10 x0 x1 x2 x3 (t0 + t1) (x5 + (1 : Int32)) h
noncomputable def f_X8_counted_b99 (G : GE) (k10 : Nat → Int32 → Int32 → Int32 → Int32 → Int32 → PH → Option (Int32 × PH)) (x0 : Nat) (x1 : Int32) (x2 : Int32) (x3 : Int32) (x5 : Int32) (t0 : Int32) (h : PH) : Option (Int32 × PH) :=
  f_X8_counted_b100 G k10 x0 x1 x2 x3 x5 t0 (0 : Int32) h
noncomputable def f_X8_counted_b55 (G : GE) (k10 : Nat → Int32 → Int32 → Int32 → Int32 → Int32 → PH → Option (Int32 × PH)) (x0 : Nat) (x1 : Int32) (x2 : Int32) (x4 : Int32) (x5 : Int32) (t0 : Int32) (t1 : Int32) (h : PH) : Option (Int32 × PH) :=
  rd (gR 9 h x0 1) fun v21 => rd (isC 8 h v21) fun _ => bd (f_X7_of G v21 x5 (8 : Int32) h) fun v22 h => (if v22 = 0 then (rd (gR 9 h x0 1) fun v23 => rd (isC 8 h v23) fun _ => bd (f_X7_windAt G v23 x5 h) fun v24 h => rd (gR 9 h x0 1) fun v25 => rd (isC 8 h v25) fun _ => bd (f_X7_of G v25 x5 (5 : Int32) h) fun v26 h => (if v26 < v24 then (f_X8_counted_b99 G k10 x0 x1 x2 (t0 + t1) x5 x4 h) else (f_X8_counted_b100 G k10 x0 x1 x2 (t0 + t1) x5 x4 (1 : Int32) h))) else (f_X8_counted_b99 G k10 x0 x1 x2 (t0 + t1) x5 x4 h))
noncomputable def f_X8_counted_b10_body (G : GE) (k10 : Nat → Int32 → Int32 → Int32 → Int32 → Int32 → PH → Option (Int32 × PH)) (x0 : Nat) (x1 : Int32) (x2 : Int32) (x3 : Int32) (x4 : Int32) (x5 : Int32) (h : PH) : Option (Int32 × PH) :=
  rd (gR 9 h x0 1) fun v1 => rd (gI 8 h v1 5) fun v2 => (if v2 ≤ x5 then (nw h (cI 9) fun q3 h => rd (gR 9 h x0 1) fun v4 => rd (gI 8 h v4 0) fun v5 => rd (aIs h q3 (0 : Int32) v5) fun h => rd (gR 9 h x0 1) fun v6 => rd (gI 8 h v6 5) fun v7 => rd (aIs h q3 (1 : Int32) v7) fun h => rd (gR 9 h x0 1) fun v8 => rd (gI 8 h v8 7) fun v9 => rd (aIs h q3 (2 : Int32) v9) fun h => rd (gR 9 h x0 1) fun v10 => rd (gI 8 h v10 1) fun v11 => rd (aIs h q3 (3 : Int32) v11) fun h => rd (gR 9 h x0 1) fun v12 => rd (gI 8 h v12 9) fun v13 => rd (aIs h q3 (4 : Int32) v13) fun h => rd (aIs h q3 (5 : Int32) x2) fun h => rd (gR 9 h x0 1) fun v14 => rd (gI 8 h v14 11) fun v15 => rd (aIs h q3 (6 : Int32) v15) fun h => rd (aIs h q3 (7 : Int32) x3) fun h => rd (aIs h q3 (8 : Int32) x4) fun h => rd (aI h q3 x1) fun v16 => some (v16, h)) else (rd (gR 9 h x0 1) fun v17 => rd (isC 8 h v17) fun _ => bd (f_X7_of G v17 x5 (4 : Int32) h) fun v18 h => rd (gR 9 h x0 1) fun v19 => rd (isC 8 h v19) fun _ => bd (f_X7_of G v19 x5 (8 : Int32) h) fun v20 h => (if v20 ≤ 0 then (f_X8_counted_b55 G k10 x0 x1 (x2 + v18) x4 x5 x3 (0 : Int32) h) else (f_X8_counted_b55 G k10 x0 x1 (x2 + v18) x4 x5 x3 (1 : Int32) h))))
noncomputable def f_X8_counted_b10 (G : GE) (n : Nat) : Nat → Int32 → Int32 → Int32 → Int32 → Int32 → PH → Option (Int32 × PH) := lp (fun _ _ _ _ _ _ _ => none) (f_X8_counted_b10_body G) n
noncomputable def f_X8_counted (G : GE) (x0 : Nat) (x1 : Int32) (h : PH) : Option (Int32 × PH) :=
  f_X8_counted_b10 G LF x0 x1 (0 : Int32) (0 : Int32) (0 : Int32) (0 : Int32) h
abbrev rm_X8_count : Room := { frames := 4, cells := 1, slots := 9, locals := 95 }
noncomputable def f_X8_count_b28 (G : GE) (t0 : Int32) (h : PH) : Option (Int32 × PH) :=
  some (t0, h)
noncomputable def f_X8_count (G : GE) (x0 : Nat) (x1 : Int32) (h : PH) : Option (Int32 × PH) :=
  rd (sF 9 h x0 0 (.int (0 : Int32))) fun h => bd (f_X8_isIn G x1 (0 : Int32) (8 : Int32) h) fun v1 h => (if v1 = 0 then (rd (isC 9 h x0) fun _ => bd (f_X8_no G x0 (1 : Int32) h) fun v2 h => f_X8_count_b28 G v2 h) else (rd (isC 9 h x0) fun _ => bd (f_X8_counted G x0 x1 h) fun v3 h => f_X8_count_b28 G v3 h))
abbrev rm_X8_partyTold : Room := { frames := 2, cells := 0, slots := 0, locals := 43 }
noncomputable def f_X8_partyTold_b50 (G : GE) (k5 : Nat → Int32 → Int32 → Int32 → Int32 → PH → Option (Int32 × PH)) (x0 : Nat) (x1 : Int32) (x2 : Int32) (x4 : Int32) (t0 : Int32) (t1 : Int32) (h : PH) : Option (Int32 × PH) :=
  k5 x0 x1 x2 (t0 + t1) (x4 + (1 : Int32)) h
noncomputable def f_X8_partyTold_b5_body (G : GE) (k5 : Nat → Int32 → Int32 → Int32 → Int32 → PH → Option (Int32 × PH)) (x0 : Nat) (x1 : Int32) (x2 : Int32) (x3 : Int32) (x4 : Int32) (h : PH) : Option (Int32 × PH) :=
  rd (gR 9 h x0 1) fun v1 => rd (gI 8 h v1 5) fun v2 => (if v2 ≤ x4 then (some (x3, h)) else (rd (isC 9 h x0) fun _ => bd (f_X8_partyOf G x0 x4 h) fun v3 h => (if v3 = x1 then ((if x2 = 0 then (f_X8_partyTold_b50 G k5 x0 x1 x2 x4 x3 (1 : Int32) h) else (rd (gR 9 h x0 1) fun v4 => rd (isC 8 h v4) fun _ => bd (f_X7_of G v4 x4 (4 : Int32) h) fun v5 h => f_X8_partyTold_b50 G k5 x0 x1 x2 x4 x3 v5 h))) else (f_X8_partyTold_b50 G k5 x0 x1 x2 x4 x3 (0 : Int32) h))))
noncomputable def f_X8_partyTold_b5 (G : GE) (n : Nat) : Nat → Int32 → Int32 → Int32 → Int32 → PH → Option (Int32 × PH) := lp (fun _ _ _ _ _ _ => none) (f_X8_partyTold_b5_body G) n
noncomputable def f_X8_partyTold (G : GE) (x0 : Nat) (x1 : Int32) (x2 : Int32) (h : PH) : Option (Int32 × PH) :=
  f_X8_partyTold_b5 G LF x0 x1 x2 (0 : Int32) (0 : Int32) h
abbrev rm_X8_party : Room := { frames := 3, cells := 0, slots := 0, locals := 67 }
noncomputable def f_X8_party_b37 (G : GE) (t0 : Int32) (h : PH) : Option (Int32 × PH) :=
  some (t0, h)
noncomputable def f_X8_party_b32 (G : GE) (x0 : Nat) (h : PH) : Option (Int32 × PH) :=
  rd (isC 9 h x0) fun _ => bd (f_X8_no G x0 (1 : Int32) h) fun v4 h => f_X8_party_b37 G v4 h
noncomputable def f_X8_party (G : GE) (x0 : Nat) (x1 : Int32) (x2 : Int32) (h : PH) : Option (Int32 × PH) :=
  rd (sF 9 h x0 0 (.int (0 : Int32))) fun h => bd (f_X8_isIn G x1 (0 : Int32) (3 : Int32) h) fun v1 h => (if v1 = 0 then (f_X8_party_b32 G x0 h) else (bd (f_X8_isIn G x2 (0 : Int32) (1 : Int32) h) fun v2 h => (if v2 = 0 then (f_X8_party_b32 G x0 h) else (rd (isC 9 h x0) fun _ => bd (f_X8_partyTold G x0 x1 x2 h) fun v3 h => f_X8_party_b37 G v3 h))))
abbrev rm_X8_coalition : Room := { frames := 4, cells := 1, slots := 9, locals := 95 }
noncomputable def f_X8_coalition_b132 (G : GE) (x2 : Int32) (h : PH) : Option (Int32 × PH) :=
  some (x2, h)
noncomputable def f_X8_coalition_b126 (G : GE) (k18 : Nat → Int32 → Int32 → Int32 → Int32 → PH → Option (Int32 × PH)) (x0 : Nat) (x1 : Int32) (x2 : Int32) (x3 : Int32) (x4 : Int32) (h : PH) : Option (Int32 × PH) :=
  k18 x0 x1 x2 x3 (x4 + (1 : Int32)) h
noncomputable def f_X8_coalition_b120 (G : GE) (k18 : Nat → Int32 → Int32 → Int32 → Int32 → PH → Option (Int32 × PH)) (x0 : Nat) (x1 : Int32) (x4 : Int32) (x5 : Int32) (h : PH) : Option (Int32 × PH) :=
  f_X8_coalition_b126 G k18 x0 x1 x4 x5 x4 h
noncomputable def f_X8_coalition_b65 (G : GE) (k18 : Nat → Int32 → Int32 → Int32 → Int32 → PH → Option (Int32 × PH)) (k35 : Nat → Int32 → Int32 → Int32 → Int32 → Int32 → Int32 → PH → Option (Int32 × PH)) (x0 : Nat) (x1 : Int32) (x2 : Int32) (x3 : Int32) (x4 : Int32) (x6 : Int32) (t0 : Int32) (t1 : Int32) (h : PH) : Option (Int32 × PH) :=
  k35 x0 x1 x2 x3 x4 (t0 + t1) (x6 + (1 : Int32)) h
noncomputable def f_X8_coalition_b35_body (G : GE) (k18 : Nat → Int32 → Int32 → Int32 → Int32 → PH → Option (Int32 × PH)) (k35 : Nat → Int32 → Int32 → Int32 → Int32 → Int32 → Int32 → PH → Option (Int32 × PH)) (x0 : Nat) (x1 : Int32) (x2 : Int32) (x3 : Int32) (x4 : Int32) (x5 : Int32) (x6 : Int32) (h : PH) : Option (Int32 × PH) :=
  (if (4 : Int32) ≤ x6 then ((if x1 < ((2 : Int32) * x5) then (bd (f_J6_bitCount_0f7a4 G x2 h) fun v2 h => bd (f_J6_bitCount_0f7a4 G x4 h) fun v3 h => (if x2 = 0 then (f_X8_coalition_b120 G k18 x0 x1 x4 x5 h) else ((if (v2 - v3) < 0 then (f_X8_coalition_b126 G k18 x0 x1 x2 x3 x4 h) else ((if (v2 - v3) = 0 then ((if x3 < x5 then (f_X8_coalition_b120 G k18 x0 x1 x4 x5 h) else (f_X8_coalition_b126 G k18 x0 x1 x2 x3 x4 h))) else (f_X8_coalition_b120 G k18 x0 x1 x4 x5 h))))))) else (f_X8_coalition_b126 G k18 x0 x1 x2 x3 x4 h))) else ((if ((x4 >>> (x6 &&& 31)) &&& (1 : Int32)) = (1 : Int32) then (rd (isC 9 h x0) fun _ => bd (f_X8_partyTold G x0 x6 (1 : Int32) h) fun v4 h => f_X8_coalition_b65 G k18 k35 x0 x1 x2 x3 x4 x6 x5 v4 h) else (f_X8_coalition_b65 G k18 k35 x0 x1 x2 x3 x4 x6 x5 (0 : Int32) h))))
noncomputable def f_X8_coalition_b35 (G : GE) (k18 : Nat → Int32 → Int32 → Int32 → Int32 → PH → Option (Int32 × PH)) (n : Nat) : Nat → Int32 → Int32 → Int32 → Int32 → Int32 → Int32 → PH → Option (Int32 × PH) := lp (fun _ _ _ _ _ _ _ _ => none) (f_X8_coalition_b35_body G k18) n
noncomputable def f_X8_coalition_b18_body (G : GE) (k18 : Nat → Int32 → Int32 → Int32 → Int32 → PH → Option (Int32 × PH)) (x0 : Nat) (x1 : Int32) (x2 : Int32) (x3 : Int32) (x4 : Int32) (h : PH) : Option (Int32 × PH) :=
  (if (16 : Int32) ≤ x4 then (f_X8_coalition_b132 G x2 h) else ((if x1 ≤ 0 then (f_X8_coalition_b132 G x2 h) else (f_X8_coalition_b35 G k18 LF x0 x1 x2 x3 x4 (0 : Int32) (0 : Int32) h))))
noncomputable def f_X8_coalition_b18 (G : GE) (n : Nat) : Nat → Int32 → Int32 → Int32 → Int32 → PH → Option (Int32 × PH) := lp (fun _ _ _ _ _ _ => none) (f_X8_coalition_b18_body G) n
noncomputable def f_X8_coalition (G : GE) (x0 : Nat) (h : PH) : Option (Int32 × PH) :=
  rd (sF 9 h x0 0 (.int (0 : Int32))) fun h => rd (isC 9 h x0) fun _ => bd (f_X8_counted G x0 (5 : Int32) h) fun v1 h => f_X8_coalition_b18 G LF x0 v1 (0 : Int32) (0 : Int32) (1 : Int32) h
abbrev rm_X8_foresee : Room := { frames := 7, cells := 0, slots := 0, locals := 158 }
noncomputable def f_X8_foresee_b69_body (G : GE) (k69 : Nat → Int32 → Int32 → Int32 → PH → Option (Int32 × PH)) (x0 : Nat) (x1 : Int32) (x2 : Int32) (x3 : Int32) (h : PH) : Option (Int32 × PH) :=
  (if x2 ≤ x3 then (rd (gR 9 h x0 2) fun v10 => rd (isC 8 h v10) fun _ => bd (f_X7_of G v10 x1 (6 : Int32) h) fun v11 h => some (v11, h)) else (rd (gR 9 h x0 2) fun v12 => rd (isC 8 h v12) fun _ => bd (f_X7_pass G v12 h) fun v13 h => k69 x0 x1 x2 (x3 + (1 : Int32)) h))
noncomputable def f_X8_foresee_b69 (G : GE) (n : Nat) : Nat → Int32 → Int32 → Int32 → PH → Option (Int32 × PH) := lp (fun _ _ _ _ _ => none) (f_X8_foresee_b69_body G) n
noncomputable def f_X8_foresee (G : GE) (x0 : Nat) (x1 : Int32) (x2 : Int32) (h : PH) : Option (Int32 × PH) :=
  rd (sF 9 h x0 0 (.int (0 : Int32))) fun h => rd (isC 9 h x0) fun _ => bd (f_X8_isVane G x0 x1 h) fun v1 h => (if v1 = 0 then (rd (isC 9 h x0) fun _ => bd (f_X8_no G x0 (1 : Int32) h) fun v9 h => some (v9, h)) else (bd (f_X8_isIn G x2 (0 : Int32) (100 : Int32) h) fun v2 h => (if v2 = 0 then (rd (isC 9 h x0) fun _ => bd (f_X8_no G x0 (2 : Int32) h) fun v8 h => some (v8, h)) else (rd (gR 9 h x0 1) fun v3 => rd (gI 8 h v3 0) fun v4 => (if (v4 + x2) ≤ (2000 : Int32) then (rd (gR 9 h x0 2) fun v5 => rd (gR 9 h x0 1) fun v6 => rd (isC 8 h v5) fun _ => bd (f_X7_become G v5 v6 h) fun _ h => f_X8_foresee_b69 G LF x0 x1 x2 (0 : Int32) h) else (rd (isC 9 h x0) fun _ => bd (f_X8_no G x0 (3 : Int32) h) fun v7 h => some (v7, h)))))))
abbrev rm_X8_first : Room := { frames := 6, cells := 0, slots := 0, locals := 138 }
noncomputable def f_X8_first_b27_body (G : GE) (k27 : Nat → Int32 → Int32 → Int32 → PH → Option (Int32 × PH)) (x0 : Nat) (x1 : Int32) (x2 : Int32) (x4 : Int32) (h : PH) : Option (Int32 × PH) :=
  (if x2 ≤ x4 then (some ((-1 : Int32), h)) else (rd (gR 9 h x0 2) fun v4 => rd (isC 8 h v4) fun _ => bd (f_X7_turn G v4 h) fun _ h => rd (gR 9 h x0 2) fun v5 => rd (isC 8 h v5) fun _ => bd (f_X7_would G v5 x1 h) fun v6 h => (if v6 = 0 then (rd (gR 9 h x0 2) fun v7 => rd (isC 8 h v7) fun _ => bd (f_X7_end G v7 h) fun v8 h => k27 x0 x1 x2 (x4 + (1 : Int32)) h) else (rd (gR 9 h x0 2) fun v9 => rd (gI 8 h v9 0) fun v10 => some (v10, h)))))
noncomputable def f_X8_first_b27 (G : GE) (n : Nat) : Nat → Int32 → Int32 → Int32 → PH → Option (Int32 × PH) := lp (fun _ _ _ _ _ => none) (f_X8_first_b27_body G) n
noncomputable def f_X8_first_b24 (G : GE) (x0 : Nat) (x1 : Int32) (x2 : Int32) (h : PH) : Option (Int32 × PH) :=
  f_X8_first_b27 G LF x0 x1 x2 (0 : Int32) h
noncomputable def f_X8_first (G : GE) (x0 : Nat) (x1 : Int32) (x2 : Int32) (x3 : Int32) (h : PH) : Option (Int32 × PH) :=
  rd (gR 9 h x0 2) fun v1 => rd (gR 9 h x0 1) fun v2 => rd (isC 8 h v1) fun _ => bd (f_X7_become G v1 v2 h) fun _ h => (if x3 = (-1 : Int32) then (f_X8_first_b24 G x0 x1 x2 h) else (rd (gR 9 h x0 2) fun v3 => rd (isC 8 h v3) fun _ => bd (f_X7_oil G v3 x3 h) fun _ h => f_X8_first_b24 G x0 x1 x2 h))
abbrev rm_X8_passes : Room := { frames := 7, cells := 0, slots := 0, locals := 162 }
noncomputable def f_X8_passes_b65 (G : GE) (t0 : Int32) (h : PH) : Option (Int32 × PH) :=
  some (t0, h)
noncomputable def f_X8_passes (G : GE) (x0 : Nat) (x1 : Int32) (x2 : Int32) (h : PH) : Option (Int32 × PH) :=
  rd (sF 9 h x0 0 (.int (0 : Int32))) fun h => rd (isC 9 h x0) fun _ => bd (f_X8_isMotion G x0 x1 h) fun v1 h => (if v1 = 0 then (rd (isC 9 h x0) fun _ => bd (f_X8_no G x0 (1 : Int32) h) fun v8 h => some (v8, h)) else (bd (f_X8_isIn G x2 (1 : Int32) (100 : Int32) h) fun v2 h => (if v2 = 0 then (rd (isC 9 h x0) fun _ => bd (f_X8_no G x0 (2 : Int32) h) fun v7 h => some (v7, h)) else (rd (gR 9 h x0 1) fun v3 => rd (gI 8 h v3 0) fun v4 => (if (v4 + x2) ≤ (2000 : Int32) then (rd (isC 9 h x0) fun _ => bd (f_X8_first G x0 x1 x2 (-1 : Int32) h) fun v5 h => f_X8_passes_b65 G v5 h) else (rd (isC 9 h x0) fun _ => bd (f_X8_no G x0 (3 : Int32) h) fun v6 h => f_X8_passes_b65 G v6 h))))))
abbrev rm_X8_advise : Room := { frames := 7, cells := 0, slots := 0, locals := 162 }
noncomputable def f_X8_advise_b121 (G : GE) (k70 : Nat → Int32 → Int32 → Int32 → Int32 → Int32 → PH → Option (Int32 × PH)) (x0 : Nat) (x1 : Int32) (x2 : Int32) (x3 : Int32) (x4 : Int32) (x5 : Int32) (h : PH) : Option (Int32 × PH) :=
  k70 x0 x1 x2 x3 x4 (x5 + (1 : Int32)) h
noncomputable def f_X8_advise_b114 (G : GE) (k70 : Nat → Int32 → Int32 → Int32 → Int32 → Int32 → PH → Option (Int32 × PH)) (x0 : Nat) (x1 : Int32) (x2 : Int32) (x5 : Int32) (x6 : Int32) (h : PH) : Option (Int32 × PH) :=
  f_X8_advise_b121 G k70 x0 x1 x2 x5 x6 x5 h
noncomputable def f_X8_advise_b70_body (G : GE) (k70 : Nat → Int32 → Int32 → Int32 → Int32 → Int32 → PH → Option (Int32 × PH)) (x0 : Nat) (x1 : Int32) (x2 : Int32) (x3 : Int32) (x4 : Int32) (x5 : Int32) (h : PH) : Option (Int32 × PH) :=
  rd (gR 9 h x0 1) fun v9 => rd (gI 8 h v9 5) fun v10 => (if v10 ≤ x5 then (some (x3, h)) else (rd (isC 9 h x0) fun _ => bd (f_X8_first G x0 x1 x2 x5 h) fun v11 h => (if v11 = (-1 : Int32) then (f_X8_advise_b121 G k70 x0 x1 x2 x3 x4 x5 h) else ((if x4 = (-1 : Int32) then (f_X8_advise_b114 G k70 x0 x1 x2 x5 v11 h) else ((if v11 < x4 then (f_X8_advise_b114 G k70 x0 x1 x2 x5 v11 h) else (f_X8_advise_b121 G k70 x0 x1 x2 x3 x4 x5 h))))))))
noncomputable def f_X8_advise_b70 (G : GE) (n : Nat) : Nat → Int32 → Int32 → Int32 → Int32 → Int32 → PH → Option (Int32 × PH) := lp (fun _ _ _ _ _ _ _ => none) (f_X8_advise_b70_body G) n
noncomputable def f_X8_advise (G : GE) (x0 : Nat) (x1 : Int32) (x2 : Int32) (h : PH) : Option (Int32 × PH) :=
  rd (sF 9 h x0 0 (.int (0 : Int32))) fun h => rd (isC 9 h x0) fun _ => bd (f_X8_isMotion G x0 x1 h) fun v1 h => (if v1 = 0 then (rd (isC 9 h x0) fun _ => bd (f_X8_no G x0 (1 : Int32) h) fun v8 h => some (v8, h)) else (bd (f_X8_isIn G x2 (1 : Int32) (50 : Int32) h) fun v2 h => (if v2 = 0 then (rd (isC 9 h x0) fun _ => bd (f_X8_no G x0 (2 : Int32) h) fun v7 h => some (v7, h)) else (rd (gR 9 h x0 1) fun v3 => rd (gI 8 h v3 0) fun v4 => (if (v4 + x2) ≤ (2000 : Int32) then (rd (isC 9 h x0) fun _ => bd (f_X8_first G x0 x1 x2 (-1 : Int32) h) fun v5 h => f_X8_advise_b70 G LF x0 x1 x2 (-1 : Int32) v5 (0 : Int32) h) else (rd (isC 9 h x0) fun _ => bd (f_X8_no G x0 (3 : Int32) h) fun v6 h => some (v6, h)))))))
abbrev rm_X8_discord : Room := { frames := 1, cells := 0, slots := 0, locals := 22 }
noncomputable def f_X8_discord_b85 (G : GE) (t0 : UInt64) (h : PH) : Option (UInt64 × PH) :=
  some (t0, h)
noncomputable def f_X8_discord_b9_body (G : GE) (k9 : Nat → Int32 → Int32 → PH → Option (UInt64 × PH)) (x0 : Nat) (x1 : Int32) (x2 : Int32) (h : PH) : Option (UInt64 × PH) :=
  rd (gR 9 h x0 1) fun v1 => rd (gI 8 h v1 5) fun v2 => (if v2 ≤ x2 then (rd (gR 9 h x0 1) fun v3 => rd (gI 8 h v3 5) fun v4 => (if v4 = 0 then (f_X8_discord_b85 G (0 : UInt64) h) else (rd (gR 9 h x0 1) fun v5 => rd (gI 8 h v5 5) fun v6 => ngd (FP.ddiv (FP.i2d x1) (FP.i2d v6)) <| f_X8_discord_b85 G (FP.ddiv (FP.i2d x1) (FP.i2d v6)) h))) else (rd (gR 9 h x0 1) fun v7 => rd (isC 8 h v7) fun _ => bd (f_X7_of G v7 x2 (6 : Int32) h) fun v8 h => rd (gR 9 h x0 1) fun v9 => rd (gR 8 h v9 2) fun v10 => rd (gR 9 h x0 1) fun v11 => rd (isC 8 h v11) fun _ => bd (f_X7_entry G v11 h) fun v12 h => rd (aI h v10 v12) fun v13 => bd (f_X8_apart G v8 v13 h) fun v14 h => k9 x0 (x1 + (abI v14)) (x2 + (1 : Int32)) h))
noncomputable def f_X8_discord_b9 (G : GE) (n : Nat) : Nat → Int32 → Int32 → PH → Option (UInt64 × PH) := lp (fun _ _ _ _ => none) (f_X8_discord_b9_body G) n
noncomputable def f_X8_discord (G : GE) (x0 : Nat) (h : PH) : Option (UInt64 × PH) :=
  rd (sF 9 h x0 0 (.int (0 : Int32))) fun h => f_X8_discord_b9 G LF x0 (0 : Int32) (0 : Int32) h
