/-! ===== rows over pure heaps: branches, guards, Math, copies ===== -/
section PRB
variable {G : GE} {p : Program} {l : Launch} {e : Env} {R : Room} {s : State} {m : MethodId} {args : Array Value} {below : List Frame} {meth : Method} {c : Code} {H : Heap} {locs : List Loc} {cells slots : Nat} {Q : State → Prop}
variable {cc : ByteArray} {nL : Nat} {own nm : String} {ret : Option FieldType} {pc : Nat} {ls : Array Slot} {rest : List Value} {h : PH} {β : Type} {Rr : β}
theorem p_if_eq (X : Cx G p s m args meth c cc nL own nm ret) {x : Int32} {off : Int} {tgt : Nat} {A B : Option β} (hf : (if x = 0 then A else B) = some Rr) (hdg : decode cc pc = .ok (.ifCond .eq off, 3)) (ht : (pc : Int) + off = (tgt : Int))
    (kt : x = 0 → A = some Rr → W p l e R s m args below meth c H locs cells slots Q (F0 m tgt ls rest)) (kf : ¬ x = 0 → B = some Rr → W p l e R s m args below meth c H locs cells slots Q (F0 m (pc + 3) ls rest)) : W p l e R s m args below meth c H locs cells slots Q (F0 m pc ls (.int x :: rest)) :=
  lv_if_eq X.1 X.2.1 hdg ht (fun z => kt z (by rw [if_pos z] at hf; exact hf)) (fun z => kf z (by rw [if_neg z] at hf; exact hf))
theorem p_if_ne (X : Cx G p s m args meth c cc nL own nm ret) {x : Int32} {off : Int} {tgt : Nat} {A B : Option β} (hf : (if x = 0 then A else B) = some Rr) (hdg : decode cc pc = .ok (.ifCond .ne off, 3)) (ht : (pc : Int) + off = (tgt : Int))
    (kt : ¬ x = 0 → B = some Rr → W p l e R s m args below meth c H locs cells slots Q (F0 m tgt ls rest)) (kf : x = 0 → A = some Rr → W p l e R s m args below meth c H locs cells slots Q (F0 m (pc + 3) ls rest)) : W p l e R s m args below meth c H locs cells slots Q (F0 m pc ls (.int x :: rest)) :=
  lv_if_ne X.1 X.2.1 hdg ht (fun z => kt z (by rw [if_neg z] at hf; exact hf)) (fun z => kf z (by rw [if_pos z] at hf; exact hf))
theorem p_if_lt (X : Cx G p s m args meth c cc nL own nm ret) {x : Int32} {off : Int} {tgt : Nat} {A B : Option β} (hf : (if x < 0 then A else B) = some Rr) (hdg : decode cc pc = .ok (.ifCond .lt off, 3)) (ht : (pc : Int) + off = (tgt : Int))
    (kt : x < 0 → A = some Rr → W p l e R s m args below meth c H locs cells slots Q (F0 m tgt ls rest)) (kf : ¬ x < 0 → B = some Rr → W p l e R s m args below meth c H locs cells slots Q (F0 m (pc + 3) ls rest)) : W p l e R s m args below meth c H locs cells slots Q (F0 m pc ls (.int x :: rest)) :=
  lv_if_lt X.1 X.2.1 hdg ht (fun z => kt z (by rw [if_pos z] at hf; exact hf)) (fun z => kf z (by rw [if_neg z] at hf; exact hf))
theorem p_if_ge (X : Cx G p s m args meth c cc nL own nm ret) {x : Int32} {off : Int} {tgt : Nat} {A B : Option β} (hf : (if 0 ≤ x then A else B) = some Rr) (hdg : decode cc pc = .ok (.ifCond .ge off, 3)) (ht : (pc : Int) + off = (tgt : Int))
    (kt : 0 ≤ x → A = some Rr → W p l e R s m args below meth c H locs cells slots Q (F0 m tgt ls rest)) (kf : ¬ 0 ≤ x → B = some Rr → W p l e R s m args below meth c H locs cells slots Q (F0 m (pc + 3) ls rest)) : W p l e R s m args below meth c H locs cells slots Q (F0 m pc ls (.int x :: rest)) :=
  lv_if_ge X.1 X.2.1 hdg ht (fun z => kt z (by rw [if_pos z] at hf; exact hf)) (fun z => kf z (by rw [if_neg z] at hf; exact hf))
theorem p_if_gt (X : Cx G p s m args meth c cc nL own nm ret) {x : Int32} {off : Int} {tgt : Nat} {A B : Option β} (hf : (if 0 < x then A else B) = some Rr) (hdg : decode cc pc = .ok (.ifCond .gt off, 3)) (ht : (pc : Int) + off = (tgt : Int))
    (kt : 0 < x → A = some Rr → W p l e R s m args below meth c H locs cells slots Q (F0 m tgt ls rest)) (kf : ¬ 0 < x → B = some Rr → W p l e R s m args below meth c H locs cells slots Q (F0 m (pc + 3) ls rest)) : W p l e R s m args below meth c H locs cells slots Q (F0 m pc ls (.int x :: rest)) :=
  lv_if_gt X.1 X.2.1 hdg ht (fun z => kt z (by rw [if_pos z] at hf; exact hf)) (fun z => kf z (by rw [if_neg z] at hf; exact hf))
theorem p_if_le (X : Cx G p s m args meth c cc nL own nm ret) {x : Int32} {off : Int} {tgt : Nat} {A B : Option β} (hf : (if x ≤ 0 then A else B) = some Rr) (hdg : decode cc pc = .ok (.ifCond .le off, 3)) (ht : (pc : Int) + off = (tgt : Int))
    (kt : x ≤ 0 → A = some Rr → W p l e R s m args below meth c H locs cells slots Q (F0 m tgt ls rest)) (kf : ¬ x ≤ 0 → B = some Rr → W p l e R s m args below meth c H locs cells slots Q (F0 m (pc + 3) ls rest)) : W p l e R s m args below meth c H locs cells slots Q (F0 m pc ls (.int x :: rest)) :=
  lv_if_le X.1 X.2.1 hdg ht (fun z => kt z (by rw [if_pos z] at hf; exact hf)) (fun z => kf z (by rw [if_neg z] at hf; exact hf))
theorem p_icmp_eq (X : Cx G p s m args meth c cc nL own nm ret) {x y : Int32} {off : Int} {tgt : Nat} {A B : Option β} (hf : (if x = y then A else B) = some Rr) (hdg : decode cc pc = .ok (.if_icmp .eq off, 3)) (ht : (pc : Int) + off = (tgt : Int))
    (kt : x = y → A = some Rr → W p l e R s m args below meth c H locs cells slots Q (F0 m tgt ls rest)) (kf : ¬ x = y → B = some Rr → W p l e R s m args below meth c H locs cells slots Q (F0 m (pc + 3) ls rest)) : W p l e R s m args below meth c H locs cells slots Q (F0 m pc ls (.int y :: .int x :: rest)) :=
  lv_icmp_eq X.1 X.2.1 hdg ht (fun z => kt z (by rw [if_pos z] at hf; exact hf)) (fun z => kf z (by rw [if_neg z] at hf; exact hf))
theorem p_icmp_ne (X : Cx G p s m args meth c cc nL own nm ret) {x y : Int32} {off : Int} {tgt : Nat} {A B : Option β} (hf : (if x = y then A else B) = some Rr) (hdg : decode cc pc = .ok (.if_icmp .ne off, 3)) (ht : (pc : Int) + off = (tgt : Int))
    (kt : ¬ x = y → B = some Rr → W p l e R s m args below meth c H locs cells slots Q (F0 m tgt ls rest)) (kf : x = y → A = some Rr → W p l e R s m args below meth c H locs cells slots Q (F0 m (pc + 3) ls rest)) : W p l e R s m args below meth c H locs cells slots Q (F0 m pc ls (.int y :: .int x :: rest)) :=
  lv_icmp_ne X.1 X.2.1 hdg ht (fun z => kt z (by rw [if_neg z] at hf; exact hf)) (fun z => kf z (by rw [if_pos z] at hf; exact hf))
theorem p_icmp_lt (X : Cx G p s m args meth c cc nL own nm ret) {x y : Int32} {off : Int} {tgt : Nat} {A B : Option β} (hf : (if x < y then A else B) = some Rr) (hdg : decode cc pc = .ok (.if_icmp .lt off, 3)) (ht : (pc : Int) + off = (tgt : Int))
    (kt : x < y → A = some Rr → W p l e R s m args below meth c H locs cells slots Q (F0 m tgt ls rest)) (kf : ¬ x < y → B = some Rr → W p l e R s m args below meth c H locs cells slots Q (F0 m (pc + 3) ls rest)) : W p l e R s m args below meth c H locs cells slots Q (F0 m pc ls (.int y :: .int x :: rest)) :=
  lv_icmp_lt X.1 X.2.1 hdg ht (fun z => kt z (by rw [if_pos z] at hf; exact hf)) (fun z => kf z (by rw [if_neg z] at hf; exact hf))
theorem p_icmp_ge (X : Cx G p s m args meth c cc nL own nm ret) {x y : Int32} {off : Int} {tgt : Nat} {A B : Option β} (hf : (if y ≤ x then A else B) = some Rr) (hdg : decode cc pc = .ok (.if_icmp .ge off, 3)) (ht : (pc : Int) + off = (tgt : Int))
    (kt : y ≤ x → A = some Rr → W p l e R s m args below meth c H locs cells slots Q (F0 m tgt ls rest)) (kf : ¬ y ≤ x → B = some Rr → W p l e R s m args below meth c H locs cells slots Q (F0 m (pc + 3) ls rest)) : W p l e R s m args below meth c H locs cells slots Q (F0 m pc ls (.int y :: .int x :: rest)) :=
  lv_icmp_ge X.1 X.2.1 hdg ht (fun z => kt z (by rw [if_pos z] at hf; exact hf)) (fun z => kf z (by rw [if_neg z] at hf; exact hf))
theorem p_icmp_gt (X : Cx G p s m args meth c cc nL own nm ret) {x y : Int32} {off : Int} {tgt : Nat} {A B : Option β} (hf : (if y < x then A else B) = some Rr) (hdg : decode cc pc = .ok (.if_icmp .gt off, 3)) (ht : (pc : Int) + off = (tgt : Int))
    (kt : y < x → A = some Rr → W p l e R s m args below meth c H locs cells slots Q (F0 m tgt ls rest)) (kf : ¬ y < x → B = some Rr → W p l e R s m args below meth c H locs cells slots Q (F0 m (pc + 3) ls rest)) : W p l e R s m args below meth c H locs cells slots Q (F0 m pc ls (.int y :: .int x :: rest)) :=
  lv_icmp_gt X.1 X.2.1 hdg ht (fun z => kt z (by rw [if_pos z] at hf; exact hf)) (fun z => kf z (by rw [if_neg z] at hf; exact hf))
theorem p_icmp_le (X : Cx G p s m args meth c cc nL own nm ret) {x y : Int32} {off : Int} {tgt : Nat} {A B : Option β} (hf : (if x ≤ y then A else B) = some Rr) (hdg : decode cc pc = .ok (.if_icmp .le off, 3)) (ht : (pc : Int) + off = (tgt : Int))
    (kt : x ≤ y → A = some Rr → W p l e R s m args below meth c H locs cells slots Q (F0 m tgt ls rest)) (kf : ¬ x ≤ y → B = some Rr → W p l e R s m args below meth c H locs cells slots Q (F0 m (pc + 3) ls rest)) : W p l e R s m args below meth c H locs cells slots Q (F0 m pc ls (.int y :: .int x :: rest)) :=
  lv_icmp_le X.1 X.2.1 hdg ht (fun z => kt z (by rw [if_pos z] at hf; exact hf)) (fun z => kf z (by rw [if_neg z] at hf; exact hf))
theorem p_acmp_eq (X : Cx G p s m args meth c cc nL own nm ret) {x y : Nat} {off : Int} {tgt : Nat} {A B : Option β} (hf : (if x = y then A else B) = some Rr) (hdg : decode cc pc = .ok (.if_acmp .eq off, 3)) (ht : (pc : Int) + off = (tgt : Int))
    (kt : x = y → A = some Rr → W p l e R s m args below meth c H locs cells slots Q (F0 m tgt ls rest)) (kf : ¬ x = y → B = some Rr → W p l e R s m args below meth c H locs cells slots Q (F0 m (pc + 3) ls rest)) : W p l e R s m args below meth c H locs cells slots Q (F0 m pc ls (.ref y :: .ref x :: rest)) :=
  lv_acmp_eq (rx := some x) (ry := some y) X.1 X.2.1 hdg ht (fun z => kt (Option.some.inj z) (by rw [if_pos (Option.some.inj z)] at hf; exact hf)) (fun z => kf (fun q => z (congrArg some q)) (by rw [if_neg (fun q => z (congrArg some q))] at hf; exact hf))
theorem p_acmp_ne (X : Cx G p s m args meth c cc nL own nm ret) {x y : Nat} {off : Int} {tgt : Nat} {A B : Option β} (hf : (if x = y then A else B) = some Rr) (hdg : decode cc pc = .ok (.if_acmp .ne off, 3)) (ht : (pc : Int) + off = (tgt : Int))
    (kt : ¬ x = y → B = some Rr → W p l e R s m args below meth c H locs cells slots Q (F0 m tgt ls rest)) (kf : x = y → A = some Rr → W p l e R s m args below meth c H locs cells slots Q (F0 m (pc + 3) ls rest)) : W p l e R s m args below meth c H locs cells slots Q (F0 m pc ls (.ref y :: .ref x :: rest)) :=
  lv_acmp_ne (rx := some x) (ry := some y) X.1 X.2.1 hdg ht (fun z => kt (fun q => z (congrArg some q)) (by rw [if_neg (fun q => z (congrArg some q))] at hf; exact hf)) (fun z => kf (Option.some.inj z) (by rw [if_pos (Option.some.inj z)] at hf; exact hf))
theorem p_idiv (X : Cx G p s m args meth c cc nL own nm ret) {x y : Int32} {F : Option β} (hf : nz y F = some Rr) (hdg : decode cc pc = .ok (.idiv, 1)) (kk : F = some Rr → W p l e R s m args below meth c H locs cells slots Q (F0 m (pc + 1) ls (.int (x / y) :: rest))) : W p l e R s m args below meth c H locs cells slots Q (F0 m pc ls (.int y :: .int x :: rest)) :=
  lv_idiv X.1 X.2.1 hdg (nz_some hf).1 (kk (nz_some hf).2)
theorem p_irem (X : Cx G p s m args meth c cc nL own nm ret) {x y : Int32} {F : Option β} (hf : nz y F = some Rr) (hdg : decode cc pc = .ok (.irem, 1)) (kk : F = some Rr → W p l e R s m args below meth c H locs cells slots Q (F0 m (pc + 1) ls (.int (x - x / y * y) :: rest))) : W p l e R s m args below meth c H locs cells slots Q (F0 m pc ls (.int y :: .int x :: rest)) :=
  lv_irem X.1 X.2.1 hdg (nz_some hf).1 (kk (nz_some hf).2)
theorem p_ddiv (X : Cx G p s m args meth c cc nL own nm ret) {x y : UInt64} {F : Option β} (hf : (if FP.ddiv x y &&& 0x7fffffffffffffff ≤ 0x7ff0000000000000 then F else none) = some Rr) (hdg : decode cc pc = .ok (.ddiv, 1)) (kk : F = some Rr → W p l e R s m args below meth c H locs cells slots Q (F0 m (pc + 1) ls (.double (FP.ddiv x y) :: rest))) : W p l e R s m args below meth c H locs cells slots Q (F0 m pc ls (.double y :: .double x :: rest)) := by
  split at hf
  · rename_i hn; exact lv_ddiv X.1 X.2.1 hdg hn (kk hf)
  · cases hf
theorem p_max (X : Cx G p s m args meth c cc nL own nm ret) {index : Nat} (hk : Cond.methodLink own index Lib.Math.max.name ∈ W0) (hs : Cond.static Lib.Math.max.name ∈ W0) (hi : Cond.initialized "java/lang/Math" ∈ W0) (hc : Cond.code Lib.Math.max.name Lib.Math.max.code 2 (some .int) ∈ W0) (hls : ls.size = nL) (hfr : 1 ≤ R.frames) (hlo : (rest.map fun v => v.category).sum + 13 ≤ R.locals) (h1 : cells ≤ R.cells) (h2 : slots ≤ R.slots) {x y : Int32} (hdg : decode cc pc = .ok (.invokestatic index, 3))
    (kk : W p l e R s m args below meth c H locs cells slots Q (F0 m (pc + 3) ls (.int (mxI x y) :: rest))) : W p l e R s m args below meth c H locs cells slots Q (F0 m pc ls (.int y :: .int x :: rest)) :=
  va_mmax X.1 X.2.1 (X.2.2.1.trans hls.symm) X.2.2.2.1 (X.2.2.2.2.1 _ hk) (X.2.2.2.2.1 _ hs) (X.2.2.2.2.1 _ hi) (X.2.2.2.2.1 _ hc) hfr hlo h1 h2 hdg kk
theorem p_min (X : Cx G p s m args meth c cc nL own nm ret) {index : Nat} (hk : Cond.methodLink own index Lib.Math.min.name ∈ W0) (hs : Cond.static Lib.Math.min.name ∈ W0) (hi : Cond.initialized "java/lang/Math" ∈ W0) (hc : Cond.code Lib.Math.min.name Lib.Math.min.code 2 (some .int) ∈ W0) (hls : ls.size = nL) (hfr : 1 ≤ R.frames) (hlo : (rest.map fun v => v.category).sum + 13 ≤ R.locals) (h1 : cells ≤ R.cells) (h2 : slots ≤ R.slots) {x y : Int32} (hdg : decode cc pc = .ok (.invokestatic index, 3))
    (kk : W p l e R s m args below meth c H locs cells slots Q (F0 m (pc + 3) ls (.int (mnI x y) :: rest))) : W p l e R s m args below meth c H locs cells slots Q (F0 m pc ls (.int y :: .int x :: rest)) :=
  va_mmin X.1 X.2.1 (X.2.2.1.trans hls.symm) X.2.2.2.1 (X.2.2.2.2.1 _ hk) (X.2.2.2.2.1 _ hs) (X.2.2.2.2.1 _ hi) (X.2.2.2.2.1 _ hc) hfr hlo h1 h2 hdg kk
theorem p_abs (X : Cx G p s m args meth c cc nL own nm ret) {index : Nat} (hk : Cond.methodLink own index Lib.Math.abs.name ∈ W0) (hs : Cond.static Lib.Math.abs.name ∈ W0) (hi : Cond.initialized "java/lang/Math" ∈ W0) (hc : Cond.code Lib.Math.abs.name Lib.Math.abs.code 1 (some .int) ∈ W0) (hls : ls.size = nL) (hfr : 1 ≤ R.frames) (hlo : (rest.map fun v => v.category).sum + 13 ≤ R.locals) (h1 : cells ≤ R.cells) (h2 : slots ≤ R.slots) {x : Int32} (hdg : decode cc pc = .ok (.invokestatic index, 3))
    (kk : W p l e R s m args below meth c H locs cells slots Q (F0 m (pc + 3) ls (.int (abI x) :: rest))) : W p l e R s m args below meth c H locs cells slots Q (F0 m pc ls (.int x :: rest)) :=
  va_mabs X.1 X.2.1 (X.2.2.1.trans hls.symm) X.2.2.2.1 (X.2.2.2.2.1 _ hk) (X.2.2.2.2.1 _ hs) (X.2.2.2.2.1 _ hi) (X.2.2.2.2.1 _ hc) hfr hlo h1 h2 hdg kk
theorem p_tin (X : Cx G p s m args meth c cc nL own nm ret) {dflt lo hi : Int} {offs : Array Int} {len : Nat} {x k : Int32} {off : Int} {tgt : Nat} (hdg : decode cc pc = .ok (.tableswitch dflt lo hi offs, len)) (hk : x = k) (h1 : ¬ k.toInt < lo) (h2 : ¬ hi < k.toInt) (ho : offs[(k.toInt - lo).toNat]? = some off) (ht : (pc : Int) + off = (tgt : Int))
    (kk : W p l e R s m args below meth c H locs cells slots Q (F0 m tgt ls rest)) : W p l e R s m args below meth c H locs cells slots Q (F0 m pc ls (.int x :: rest)) := by
  subst hk
  exact lv_tableIn X.1 X.2.1 hdg h1 h2 ho ht kk
theorem p_tout (X : Cx G p s m args meth c cc nL own nm ret) {dflt : Int} {N : Nat} {offs : Array Int} {len : Nat} {x : Int32} {tgt : Nat} (hdg : decode cc pc = .ok (.tableswitch dflt 0 (N : Int) offs, len)) (hN : N < 2 ^ 31) (hno : ∀ j : Nat, j ≤ N → ¬ x = Int32.ofNat j) (ht : (pc : Int) + dflt = (tgt : Int))
    (kk : W p l e R s m args below meth c H locs cells slots Q (F0 m tgt ls rest)) : W p l e R s m args below meth c H locs cells slots Q (F0 m pc ls (.int x :: rest)) := by
  refine lv_tableOut X.1 X.2.1 hdg ?_ ht kk
  by_cases h0 : x.toInt < 0
  · exact Or.inl h0
  · by_cases h1 : (N : Int) < x.toInt
    · exact Or.inr h1
    · exfalso
      refine hno x.toInt.toNat (by omega) ?_
      apply Int32.toInt_inj.mp
      have := nI_toInt (n := x.toInt.toNat) (by omega)
      unfold nI at this
      rw [this]
      omega
end PRB
