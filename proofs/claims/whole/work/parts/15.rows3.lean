/-! ===== rows over pure heaps: branches, guards, Math, copies ===== -/
section PRB
variable {G : GE} {p : Program} {l : Launch} {e : Env} {R : Room} {s : State} {m : MethodId} {args : Array Value} {below : List Frame} {meth : Method} {c : Code} {H : Heap} {locs : List Loc} {cells slots : Nat} {Q : State → Prop}
variable {cc : ByteArray} {nL : Nat} {own nm : String} {ret : Option FieldType} {pc : Nat} {ls : Array Slot} {rest : List Value} {h : PH} {β : Type} {Rr : β}
theorem p_if_eq (X : Cx G p s m args meth c cc nL own nm ret) {x : Int32} {off : Int} {tgt : Nat} {A B : Option β} (hf : (if x = 0 then A else B) = some Rr) (hdg : decode cc pc = .ok (.ifCond .eq off, 3)) (ht : (pc : Int) + off = (tgt : Int))
    (kt : x = 0 → A = some Rr → W p l e R s m args below meth c H locs cells slots Q (F0 m tgt ls rest)) (kf : ¬ x = 0 → B = some Rr → W p l e R s m args below meth c H locs cells slots Q (F0 m (pc + 3) ls rest)) : W p l e R s m args below meth c H locs cells slots Q (F0 m pc ls (.int x :: rest)) :=
  lv_if_eq X.1 X.2.1 hdg ht (fun z => kt z (by rw [if_pos z] at hf; exact hf)) (fun z => kf z (by rw [if_neg z] at hf; exact hf))
theorem p_if_ne (X : Cx G p s m args meth c cc nL own nm ret) {x : Int32} {off : Int} {tgt : Nat} {A B : Option β} (hf : (if x = 0 then A else B) = some Rr) (hdg : decode cc pc = .ok (.ifCond .ne off, 3)) (ht : (pc : Int) + off = (tgt : Int))
    (kt : ¬ x = 0 → B = some Rr → W p l e R s m args below meth c H locs cells slots Q (F0 m tgt ls rest)) (kf : x = 0 → A = some Rr → W p l e R s m args below meth c H locs cells slots Q (F0 m (pc + 3) ls rest)) : W p l e R s m args below meth c H locs cells slots Q (F0 m pc ls (.int x :: rest)) :=
  lv_if_ne X.1 X.2.1 hdg ht (fun z => kt z (by rw [if_neg z] at hf; exact hf)) (fun z => kf z (by rw [if_pos z] at hf; exact hf))
theorem p_if_lt (X : Cx G p s m args meth c cc nL own nm ret) {x : Int32} {off : Int} {tgt : Nat} {A B : Option β} (hf : (if x < 0 then A else B) = some Rr) (hdg : decode cc pc = .ok (.ifCond .lt off, 3)) (ht : (pc : Int) + off = (tgt : Int))
    (kt : x < 0 → A = some Rr → W p l e R s m args below meth c H locs cells slots Q (F0 m tgt ls rest)) (kf : ¬ x < 0 → B = some Rr → W p l e R s m args below meth c H locs cells slots Q (F0 m (pc + 3) ls rest)) : W p l e R s m args below meth c H locs cells slots Q (F0 m pc ls (.int x :: rest)) :=
  lv_if_lt X.1 X.2.1 hdg ht (fun z => kt z (by rw [if_pos z] at hf; exact hf)) (fun z => kf z (by rw [if_neg z] at hf; exact hf))
theorem p_if_ge (X : Cx G p s m args meth c cc nL own nm ret) {x : Int32} {off : Int} {tgt : Nat} {A B : Option β} (hf : (if 0 ≤ x then A else B) = some Rr) (hdg : decode cc pc = .ok (.ifCond .ge off, 3)) (ht : (pc : Int) + off = (tgt : Int))
    (kt : 0 ≤ x → A = some Rr → W p l e R s m args below meth c H locs cells slots Q (F0 m tgt ls rest)) (kf : ¬ 0 ≤ x → B = some Rr → W p l e R s m args below meth c H locs cells slots Q (F0 m (pc + 3) ls rest)) : W p l e R s m args below meth c H locs cells slots Q (F0 m pc ls (.int x :: rest)) :=
  lv_if_ge X.1 X.2.1 hdg ht (fun z => kt z (by rw [if_pos z] at hf; exact hf)) (fun z => kf z (by rw [if_neg z] at hf; exact hf))
theorem p_if_gt (X : Cx G p s m args meth c cc nL own nm ret) {x : Int32} {off : Int} {tgt : Nat} {A B : Option β} (hf : (if 0 < x then A else B) = some Rr) (hdg : decode cc pc = .ok (.ifCond .gt off, 3)) (ht : (pc : Int) + off = (tgt : Int))
    (kt : 0 < x → A = some Rr → W p l e R s m args below meth c H locs cells slots Q (F0 m tgt ls rest)) (kf : ¬ 0 < x → B = some Rr → W p l e R s m args below meth c H locs cells slots Q (F0 m (pc + 3) ls rest)) : W p l e R s m args below meth c H locs cells slots Q (F0 m pc ls (.int x :: rest)) :=
  lv_if_gt X.1 X.2.1 hdg ht (fun z => kt z (by rw [if_pos z] at hf; exact hf)) (fun z => kf z (by rw [if_neg z] at hf; exact hf))
theorem p_if_le (X : Cx G p s m args meth c cc nL own nm ret) {x : Int32} {off : Int} {tgt : Nat} {A B : Option β} (hf : (if x ≤ 0 then A else B) = some Rr) (hdg : decode cc pc = .ok (.ifCond .le off, 3)) (ht : (pc : Int) + off = (tgt : Int))
    (kt : x ≤ 0 → A = some Rr → W p l e R s m args below meth c H locs cells slots Q (F0 m tgt ls rest)) (kf : ¬ x ≤ 0 → B = some Rr → W p l e R s m args below meth c H locs cells slots Q (F0 m (pc + 3) ls rest)) : W p l e R s m args below meth c H locs cells slots Q (F0 m pc ls (.int x :: rest)) :=
  lv_if_le X.1 X.2.1 hdg ht (fun z => kt z (by rw [if_pos z] at hf; exact hf)) (fun z => kf z (by rw [if_neg z] at hf; exact hf))
theorem p_icmp_eq (X : Cx G p s m args meth c cc nL own nm ret) {x y : Int32} {off : Int} {tgt : Nat} {A B : Option β} (hf : (if x = y then A else B) = some Rr) (hdg : decode cc pc = .ok (.if_icmp .eq off, 3)) (ht : (pc : Int) + off = (tgt : Int))
    (kt : x = y → A = some Rr → W p l e R s m args below meth c H locs cells slots Q (F0 m tgt ls rest)) (kf : ¬ x = y → B = some Rr → W p l e R s m args below meth c H locs cells slots Q (F0 m (pc + 3) ls rest)) : W p l e R s m args below meth c H locs cells slots Q (F0 m pc ls (.int y :: .int x :: rest)) :=
  lv_icmp_eq X.1 X.2.1 hdg ht (fun z => kt z (by rw [if_pos z] at hf; exact hf)) (fun z => kf z (by rw [if_neg z] at hf; exact hf))
theorem p_icmp_ne (X : Cx G p s m args meth c cc nL own nm ret) {x y : Int32} {off : Int} {tgt : Nat} {A B : Option β} (hf : (if x = y then A else B) = some Rr) (hdg : decode cc pc = .ok (.if_icmp .ne off, 3)) (ht : (pc : Int) + off = (tgt : Int))
    (kt : ¬ x = y → B = some Rr → W p l e R s m args below meth c H locs cells slots Q (F0 m tgt ls rest)) (kf : x = y → A = some Rr → W p l e R s m args below meth c H locs cells slots Q (F0 m (pc + 3) ls rest)) : W p l e R s m args below meth c H locs cells slots Q (F0 m pc ls (.int y :: .int x :: rest)) :=
  lv_icmp_ne X.1 X.2.1 hdg ht (fun z => kt z (by rw [if_neg z] at hf; exact hf)) (fun z => kf z (by rw [if_pos z] at hf; exact hf))
theorem p_icmp_lt (X : Cx G p s m args meth c cc nL own nm ret) {x y : Int32} {off : Int} {tgt : Nat} {A B : Option β} (hf : (if x < y then A else B) = some Rr) (hdg : decode cc pc = .ok (.if_icmp .lt off, 3)) (ht : (pc : Int) + off = (tgt : Int))
    (kt : x < y → A = some Rr → W p l e R s m args below meth c H locs cells slots Q (F0 m tgt ls rest)) (kf : ¬ x < y → B = some Rr → W p l e R s m args below meth c H locs cells slots Q (F0 m (pc + 3) ls rest)) : W p l e R s m args below meth c H locs cells slots Q (F0 m pc ls (.int y :: .int x :: rest)) :=
  lv_icmp_lt X.1 X.2.1 hdg ht (fun z => kt z (by rw [if_pos z] at hf; exact hf)) (fun z => kf z (by rw [if_neg z] at hf; exact hf))
theorem p_icmp_ge (X : Cx G p s m args meth c cc nL own nm ret) {x y : Int32} {off : Int} {tgt : Nat} {A B : Option β} (hf : (if y ≤ x then A else B) = some Rr) (hdg : decode cc pc = .ok (.if_icmp .ge off, 3)) (ht : (pc : Int) + off = (tgt : Int))
    (kt : y ≤ x → A = some Rr → W p l e R s m args below meth c H locs cells slots Q (F0 m tgt ls rest)) (kf : ¬ y ≤ x → B = some Rr → W p l e R s m args below meth c H locs cells slots Q (F0 m (pc + 3) ls rest)) : W p l e R s m args below meth c H locs cells slots Q (F0 m pc ls (.int y :: .int x :: rest)) :=
  lv_icmp_ge X.1 X.2.1 hdg ht (fun z => kt z (by rw [if_pos z] at hf; exact hf)) (fun z => kf z (by rw [if_neg z] at hf; exact hf))
theorem p_icmp_gt (X : Cx G p s m args meth c cc nL own nm ret) {x y : Int32} {off : Int} {tgt : Nat} {A B : Option β} (hf : (if y < x then A else B) = some Rr) (hdg : decode cc pc = .ok (.if_icmp .gt off, 3)) (ht : (pc : Int) + off = (tgt : Int))
    (kt : y < x → A = some Rr → W p l e R s m args below meth c H locs cells slots Q (F0 m tgt ls rest)) (kf : ¬ y < x → B = some Rr → W p l e R s m args below meth c H locs cells slots Q (F0 m (pc + 3) ls rest)) : W p l e R s m args below meth c H locs cells slots Q (F0 m pc ls (.int y :: .int x :: rest)) :=
  lv_icmp_gt X.1 X.2.1 hdg ht (fun z => kt z (by rw [if_pos z] at hf; exact hf)) (fun z => kf z (by rw [if_neg z] at hf; exact hf))
theorem p_icmp_le (X : Cx G p s m args meth c cc nL own nm ret) {x y : Int32} {off : Int} {tgt : Nat} {A B : Option β} (hf : (if x ≤ y then A else B) = some Rr) (hdg : decode cc pc = .ok (.if_icmp .le off, 3)) (ht : (pc : Int) + off = (tgt : Int))
    (kt : x ≤ y → A = some Rr → W p l e R s m args below meth c H locs cells slots Q (F0 m tgt ls rest)) (kf : ¬ x ≤ y → B = some Rr → W p l e R s m args below meth c H locs cells slots Q (F0 m (pc + 3) ls rest)) : W p l e R s m args below meth c H locs cells slots Q (F0 m pc ls (.int y :: .int x :: rest)) :=
  lv_icmp_le X.1 X.2.1 hdg ht (fun z => kt z (by rw [if_pos z] at hf; exact hf)) (fun z => kf z (by rw [if_neg z] at hf; exact hf))
theorem p_acmp_eq (X : Cx G p s m args meth c cc nL own nm ret) {x y : Nat} {off : Int} {tgt : Nat} {A B : Option β} (hf : (if x = y then A else B) = some Rr) (hdg : decode cc pc = .ok (.if_acmp .eq off, 3)) (ht : (pc : Int) + off = (tgt : Int))
    (kt : x = y → A = some Rr → W p l e R s m args below meth c H locs cells slots Q (F0 m tgt ls rest)) (kf : ¬ x = y → B = some Rr → W p l e R s m args below meth c H locs cells slots Q (F0 m (pc + 3) ls rest)) : W p l e R s m args below meth c H locs cells slots Q (F0 m pc ls (.ref y :: .ref x :: rest)) :=
  lv_acmp_eq (rx := some x) (ry := some y) X.1 X.2.1 hdg ht (fun z => kt (Option.some.inj z) (by rw [if_pos (Option.some.inj z)] at hf; exact hf)) (fun z => kf (fun q => z (congrArg some q)) (by rw [if_neg (fun q => z (congrArg some q))] at hf; exact hf))
theorem p_acmp_ne (X : Cx G p s m args meth c cc nL own nm ret) {x y : Nat} {off : Int} {tgt : Nat} {A B : Option β} (hf : (if x = y then A else B) = some Rr) (hdg : decode cc pc = .ok (.if_acmp .ne off, 3)) (ht : (pc : Int) + off = (tgt : Int))
    (kt : ¬ x = y → B = some Rr → W p l e R s m args below meth c H locs cells slots Q (F0 m tgt ls rest)) (kf : x = y → A = some Rr → W p l e R s m args below meth c H locs cells slots Q (F0 m (pc + 3) ls rest)) : W p l e R s m args below meth c H locs cells slots Q (F0 m pc ls (.ref y :: .ref x :: rest)) :=
  lv_acmp_ne (rx := some x) (ry := some y) X.1 X.2.1 hdg ht (fun z => kt (fun q => z (congrArg some q)) (by rw [if_neg (fun q => z (congrArg some q))] at hf; exact hf)) (fun z => kf (Option.some.inj z) (by rw [if_pos (Option.some.inj z)] at hf; exact hf))
theorem p_idiv (X : Cx G p s m args meth c cc nL own nm ret) {x y : Int32} {F : Option β} (hf : nz y F = some Rr) (hdg : decode cc pc = .ok (.idiv, 1)) (kk : F = some Rr → W p l e R s m args below meth c H locs cells slots Q (F0 m (pc + 1) ls (.int (x / y) :: rest))) : W p l e R s m args below meth c H locs cells slots Q (F0 m pc ls (.int y :: .int x :: rest)) :=
  lv_idiv X.1 X.2.1 hdg (nz_some hf).1 (kk (nz_some hf).2)
theorem p_irem (X : Cx G p s m args meth c cc nL own nm ret) {x y : Int32} {F : Option β} (hf : nz y F = some Rr) (hdg : decode cc pc = .ok (.irem, 1)) (kk : F = some Rr → W p l e R s m args below meth c H locs cells slots Q (F0 m (pc + 1) ls (.int (rmI x y) :: rest))) : W p l e R s m args below meth c H locs cells slots Q (F0 m pc ls (.int y :: .int x :: rest)) :=
  lv_irem X.1 X.2.1 hdg (nz_some hf).1 (kk (nz_some hf).2)
theorem lv_rem (hx : p.tables.exec = Jvm.exec) (hb : c.code = cc) {x y : Int32} (hdg : decode cc pc = .ok (.irem, 1)) (hne : ¬ y = 0) (kk : W p l e R s m args below meth c H locs cells slots Q (F0 m (pc + 1) ls (.int (rmI x y) :: rest))) : W p l e R s m args below meth c H locs cells slots Q (F0 m pc ls (.int y :: .int x :: rest)) := lv_irem hx hb hdg hne kk
theorem p_ddiv (X : Cx G p s m args meth c cc nL own nm ret) {x y : UInt64} {F : Option β} (hf : ngd (FP.ddiv x y) F = some Rr) (hdg : decode cc pc = .ok (.ddiv, 1)) (kk : F = some Rr → W p l e R s m args below meth c H locs cells slots Q (F0 m (pc + 1) ls (.double (FP.ddiv x y) :: rest))) : W p l e R s m args below meth c H locs cells slots Q (F0 m pc ls (.double y :: .double x :: rest)) := by
  unfold ngd at hf
  split at hf
  · rename_i hn; exact lv_ddiv X.1 X.2.1 hdg hn (kk hf)
  · cases hf
theorem p_max (X : Cx G p s m args meth c cc nL own nm ret) {index : Nat} (hk : Cond.methodLink own index Lib.Math.max.name ∈ W0) (hs : Cond.static Lib.Math.max.name ∈ W0) (hi : Cond.initialized "java/lang/Math" ∈ W0) (hc : Cond.code Lib.Math.max.name Lib.Math.max.code 2 (some .int) ∈ W0) (hls : ls.size = nL) (hfr : 1 ≤ R.frames) (hlo : (rest.map fun v => v.category).sum + 13 ≤ R.locals) (h1 : cells ≤ R.cells) (h2 : slots ≤ R.slots) {x y : Int32} (hdg : decode cc pc = .ok (.invokestatic index, 3))
    (kk : W p l e R s m args below meth c H locs cells slots Q (F0 m (pc + 3) ls (.int (mxI x y) :: rest))) : W p l e R s m args below meth c H locs cells slots Q (F0 m pc ls (.int y :: .int x :: rest)) :=
  va_mmax X.1 X.2.1 (X.2.2.1.trans hls.symm) X.2.2.2.1 (X.2.2.2.2.1 _ hk) (X.2.2.2.2.1 _ hs) (X.2.2.2.2.1 _ hi) (X.2.2.2.2.1 _ hc) hfr hlo h1 h2 hdg kk
theorem p_min (X : Cx G p s m args meth c cc nL own nm ret) {index : Nat} (hk : Cond.methodLink own index Lib.Math.min.name ∈ W0) (hs : Cond.static Lib.Math.min.name ∈ W0) (hi : Cond.initialized "java/lang/Math" ∈ W0) (hc : Cond.code Lib.Math.min.name Lib.Math.min.code 2 (some .int) ∈ W0) (hls : ls.size = nL) (hfr : 1 ≤ R.frames) (hlo : (rest.map fun v => v.category).sum + 13 ≤ R.locals) (h1 : cells ≤ R.cells) (h2 : slots ≤ R.slots) {x y : Int32} (hdg : decode cc pc = .ok (.invokestatic index, 3))
    (kk : W p l e R s m args below meth c H locs cells slots Q (F0 m (pc + 3) ls (.int (mnI x y) :: rest))) : W p l e R s m args below meth c H locs cells slots Q (F0 m pc ls (.int y :: .int x :: rest)) :=
  va_mmin X.1 X.2.1 (X.2.2.1.trans hls.symm) X.2.2.2.1 (X.2.2.2.2.1 _ hk) (X.2.2.2.2.1 _ hs) (X.2.2.2.2.1 _ hi) (X.2.2.2.2.1 _ hc) hfr hlo h1 h2 hdg kk
theorem p_abs (X : Cx G p s m args meth c cc nL own nm ret) {index : Nat} (hk : Cond.methodLink own index Lib.Math.abs.name ∈ W0) (hs : Cond.static Lib.Math.abs.name ∈ W0) (hi : Cond.initialized "java/lang/Math" ∈ W0) (hc : Cond.code Lib.Math.abs.name Lib.Math.abs.code 1 (some .int) ∈ W0) (hls : ls.size = nL) (hfr : 1 ≤ R.frames) (hlo : (rest.map fun v => v.category).sum + 13 ≤ R.locals) (h1 : cells ≤ R.cells) (h2 : slots ≤ R.slots) {x : Int32} (hdg : decode cc pc = .ok (.invokestatic index, 3))
    (kk : W p l e R s m args below meth c H locs cells slots Q (F0 m (pc + 3) ls (.int (abI x) :: rest))) : W p l e R s m args below meth c H locs cells slots Q (F0 m pc ls (.int x :: rest)) :=
  va_mabs X.1 X.2.1 (X.2.2.1.trans hls.symm) X.2.2.2.1 (X.2.2.2.2.1 _ hk) (X.2.2.2.2.1 _ hs) (X.2.2.2.2.1 _ hi) (X.2.2.2.2.1 _ hc) hfr hlo h1 h2 hdg kk
theorem p_tin (X : Cx G p s m args meth c cc nL own nm ret) {dflt lo hi : Int} {offs : Array Int} {len : Nat} {x k : Int32} {off : Int} {tgt : Nat} (hdg : decode cc pc = .ok (.tableswitch dflt lo hi offs, len)) (hk : x = k) (h1 : ¬ k.toInt < lo) (h2 : ¬ hi < k.toInt) (ho : offs[(k.toInt - lo).toNat]? = some off) (ht : (pc : Int) + off = (tgt : Int))
    (kk : W p l e R s m args below meth c H locs cells slots Q (F0 m tgt ls rest)) : W p l e R s m args below meth c H locs cells slots Q (F0 m pc ls (.int x :: rest)) := by
  subst hk
  exact lv_tableIn X.1 X.2.1 hdg h1 h2 ho ht kk
theorem p_tout (X : Cx G p s m args meth c cc nL own nm ret) {dflt : Int} {N : Nat} {offs : Array Int} {len : Nat} {x : Int32} {tgt : Nat} (hdg : decode cc pc = .ok (.tableswitch dflt 0 (N : Int) offs, len)) (hN : N < 2 ^ 31) (hno : ∀ j : Nat, j ≤ N → ¬ x = Int32.ofNat j) (ht : (pc : Int) + dflt = (tgt : Int))
    (kk : W p l e R s m args below meth c H locs cells slots Q (F0 m tgt ls rest)) : W p l e R s m args below meth c H locs cells slots Q (F0 m pc ls (.int x :: rest)) := by
  refine lv_tableOut X.1 X.2.1 hdg ?_ ht kk
  by_cases h0 : x.toInt < 0
  · exact Or.inl h0
  · by_cases h1 : (N : Int) < x.toInt
    · exact Or.inr h1
    · exfalso
      refine hno x.toInt.toNat (by omega) ?_
      apply Int32.toInt_inj.mp
      have := nI_toInt (n := x.toInt.toNat) (by omega)
      unfold nI at this
      rw [this]
      omega
theorem Hd.at {q : Nat} {c0 : PC} (hH : Hd G h H) (hc : h.2 q = some c0) : va_at (gD G) vwCl (q, toE G c0) H := (hH.2.2.2 q c0 hc).1
theorem nnI {z : Int32} (hz : ¬ z < 0) : z.toInt = (z.toNatClampNeg : Int) := by
  have hz0 : (0 : Int) ≤ z.toInt := by
    have := Int32.not_lt.mp hz
    simpa using Int32.le_iff_toInt_le.mp this
  show z.toInt = ((z.toInt.toNat : Nat) : Int)
  omega
theorem cpI_spec {k : Nat} {src dst : Nat} {sp dp n : Int32} {h' : PH} (e : cpI k h src sp dst dp n = some h') : ∃ n0 f n1 g, h.2 src = some (.inl (k, n0, .inl f)) ∧ h.2 dst = some (.inl (k, n1, .inl g)) ∧ ¬ sp < 0 ∧ ¬ dp < 0 ∧ ¬ n < 0 ∧ sp.toNatClampNeg + n.toNatClampNeg ≤ n0 ∧ dp.toNatClampNeg + n.toNatClampNeg ≤ n1 ∧ (k = 2 → ∀ i, i < n.toNatClampNeg → f (sp.toNatClampNeg + i) = 0 ∨ f (sp.toNatClampNeg + i) = 1) ∧ h' = (h.1, va_up h.2 dst (some (.inl (k, n1, .inl (va_cpy f g sp.toNatClampNeg dp.toNatClampNeg n.toNatClampNeg))))) := by
  unfold cpI at e
  split at e
  · rename_i k0 n0 f k1 n1 g h1 h2
    split at e
    · rename_i hc
      obtain ⟨rfl, rfl, c1, c2, c3, c4, c5, c6, -⟩ := hc
      exact ⟨n0, f, n1, g, h1, h2, c1, c2, c3, c4, c5, c6, (Option.some.inj e).symm⟩
    · cases e
  · cases e
theorem p_cpI (X : Cx G p s m args meth c cc nL own nm ret) (hH : Hx G s h H locs) {k : Nat} {ty : FieldType} (hk : (tysL G)[k]? = some (gT G k, ty)) (hprim : refKind ty = false) (hfit0 : ∀ z : Int32, (k = 2 → z = 0 ∨ z = 1) → fits ty (.int z) = true) {index : Nat} (hlk : Cond.methodLink own index arraycopyName ∈ W0) (hna : Cond.native arraycopyName ∈ W0) (hst : Cond.static arraycopyName ∈ W0) (hin : Cond.initialized "java/lang/System" ∈ W0) (hls : ls.size = nL) (hframes : 1 ≤ R.frames) (hlo : (rest.map fun v => v.category).sum + (nativeFrameWords "java/lang/System" "arraycopy" 5 + 11) ≤ R.locals)
    {src dst : Nat} {sp dp n : Int32} {F : PH → Option β} (hf : rd (cpI k h src sp dst dp n) F = some Rr) (hdg : decode cc pc = .ok (.invokestatic index, 3))
    (kk : ∀ (h' : PH) (H' : Heap) (locs' : List Loc), Hx G s h' H' locs' → F h' = some Rr → W p l e R s m args below meth c H' locs' cells slots Q (F0 m (pc + 3) ls rest)) : W p l e R s m args below meth c H locs cells slots Q (F0 m pc ls (.int n :: .int dp :: .ref dst :: .int sp :: .ref src :: rest)) := by
  obtain ⟨h', he, h2⟩ := rd_some hf
  obtain ⟨n0, f, n1, g, q0, q1, c1, c2, c3, c4, c5, c6, rfl⟩ := cpI_spec he
  obtain ⟨hx, hb, hml, hown, hts, hE, -⟩ := id X
  intro T hT X0
  have hc0 : H[src]? = some (vp_cell (gT G k) (n0, .inl f)) := hH.1.at q0
  have hc1 : H[dst]? = some (vp_cell (gT G k) (n1, .inl g)) := hH.1.at q1
  obtain ⟨-, k0, hk0, cm0, hkk0⟩ := (hE.1.2 k _ hk).1 n0 (fun j => .int (f j))
  obtain ⟨-, k1, hk1, cm1, hkk1⟩ := (hE.1.2 k _ hk).1 n1 (fun j => .int (g j))
  obtain ⟨vm', X', step⟩ := X0.arraycopy hx hown (hts _ hlk) (hts _ hna) (hts _ hst) (hts _ hin) (src := src) (dst := dst) (cs := vp_cell (gT G k) (n0, .inl f)) (cd := vp_cell (gT G k) (n1, .inl g)) (srcPos := sp) (destPos := dp) (n := n) (by rw [hT]; exact hc0) (by rw [hT]; exact hc1)
    (fun _ h => by cases h) (fun _ h => by cases h) (fun h => by cases h) (fun h => by cases h) hk0 hk1 hkk0 hkk1 (by simp [hprim]) c1 c2 c3
    (by rw [nnI c1, nnI c3]; show ¬ _ > ((arrV (gT G k) n0 (fun j => .int (f j))).slots.size : Int); rw [arrV_size]; omega)
    (by rw [nnI c2, nnI c3]; show ¬ _ > ((arrV (gT G k) n1 (fun j => .int (g j))).slots.size : Int); rw [arrV_size]; omega)
    (fun vm₁ _ i hi => by
      have e : (vp_cell (gT G k) (n0, .inl f)).slots.getD (sp.toNatClampNeg + i) .null = .int (f (sp.toNatClampNeg + i)) := by
        show (arrV (gT G k) n0 (fun j => .int (f j))).slots.getD _ _ = _
        rw [Array.getD_eq_getD_getElem?, arrV_read _ _ (by omega)]
        rfl
      refine ⟨?_, ?_⟩
      · rw [e]
        exact hfit0 _ (fun hk2 => c6 hk2 i hi)
      · rw [e]
        exact trivial)
    (g := F0 m pc ls (.int n :: .int dp :: .ref dst :: .int sp :: .ref src :: rest)) rfl (by rw [hml]; exact hls) (rest := rest) rfl (by rw [hb]; exact hdg) hframes (by show 2 * 0 + _ + _ ≤ _; omega)
  have e1 : copied (vp_cell (gT G k) (n0, .inl f)) (vp_cell (gT G k) (n1, .inl g)) sp dp n = vp_cell (gT G k) (n1, .inl (va_cpy f g sp.toNatClampNeg dp.toNatClampNeg n.toNatClampNeg)) := va_copied (fun z => .int z) (gT G k) (gT G k) f g c4
  rw [e1] at X' step
  have hl : dst < H.size := (Array.getElem?_eq_some_iff.mp hc1).1
  have hheap : ((T.setVm vm').setCell dst (vp_cell (gT G k) (n1, .inl (va_cpy f g sp.toNatClampNeg dp.toNatClampNeg n.toNatClampNeg)))).heap = H.setIfInBounds dst (vp_cell (gT G k) (n1, .inl (va_cpy f g sp.toNatClampNeg dp.toNatClampNeg n.toNatClampNeg))) := by rw [← hT]; rfl
  have oq : ∀ q : Nat, q ≠ dst → (H.setIfInBounds dst (vp_cell (gT G k) (n1, .inl (va_cpy f g sp.toNatClampNeg dp.toNatClampNeg n.toNatClampNeg))))[q]? = H[q]? := fun q hq => by simp [Array.getElem?_setIfInBounds, Ne.symm hq]
  obtain ⟨t, a1, b1⟩ := kk _ _ _ ⟨hH.1.set q1 (c2 := .inl (k, n1, .inl (va_cpy f g sp.toNatClampNeg dp.toNatClampNeg n.toNatClampNeg))) (fun j y hj => by
      have hz : j < 1 := (List.getElem?_eq_some_iff.mp hj).1
      rw [show j = 0 by omega] at hj
      cases hj
      show (H.setIfInBounds dst _)[dst]? = some _
      simp [Array.getElem?_setIfInBounds, hl]) (by simp) oq, by simp; exact hH.2.1, fun q hq => by
      rcases List.mem_append.mp hq with h | h
      · exact hH.2.2 q h
      · obtain ⟨z, -, hz⟩ := List.mem_map.mp h
        rw [← hz]
        exact (hH.1.2.2.2 dst _ q1).2⟩ h2 _ hheap X'
  exact ⟨t, step t a1, b1⟩
theorem p_copy0 (X : Cx G p s m args meth c cc nL own nm ret) (hH : Hx G s h H locs) {index : Nat} (hlk : Cond.methodLink own index arraycopyName ∈ W0) (hna : Cond.native arraycopyName ∈ W0) (hst : Cond.static arraycopyName ∈ W0) (hin : Cond.initialized "java/lang/System" ∈ W0) (hls : ls.size = nL) (hframes : 1 ≤ R.frames) (hlo : (rest.map fun v => v.category).sum + (nativeFrameWords "java/lang/System" "arraycopy" 5 + 11) ≤ R.locals)
    {src dst : Nat} {sp dp n : Int32} {F : PH → Option β} (hf : rd (cpI 0 h src sp dst dp n) F = some Rr) (hdg : decode cc pc = .ok (.invokestatic index, 3))
    (kk : ∀ (h' : PH) (H' : Heap) (locs' : List Loc), Hx G s h' H' locs' → F h' = some Rr → W p l e R s m args below meth c H' locs' cells slots Q (F0 m (pc + 3) ls rest)) : W p l e R s m args below meth c H locs cells slots Q (F0 m pc ls (.int n :: .int dp :: .ref dst :: .int sp :: .ref src :: rest)) :=
  p_cpI X hH (k := 0) (ty := .int) rfl rfl (fun _ _ => rfl) hlk hna hst hin hls hframes hlo hf hdg kk
theorem p_copy2 (X : Cx G p s m args meth c cc nL own nm ret) (hH : Hx G s h H locs) {index : Nat} (hlk : Cond.methodLink own index arraycopyName ∈ W0) (hna : Cond.native arraycopyName ∈ W0) (hst : Cond.static arraycopyName ∈ W0) (hin : Cond.initialized "java/lang/System" ∈ W0) (hls : ls.size = nL) (hframes : 1 ≤ R.frames) (hlo : (rest.map fun v => v.category).sum + (nativeFrameWords "java/lang/System" "arraycopy" 5 + 11) ≤ R.locals)
    {src dst : Nat} {sp dp n : Int32} {F : PH → Option β} (hf : rd (cpI 2 h src sp dst dp n) F = some Rr) (hdg : decode cc pc = .ok (.invokestatic index, 3))
    (kk : ∀ (h' : PH) (H' : Heap) (locs' : List Loc), Hx G s h' H' locs' → F h' = some Rr → W p l e R s m args below meth c H' locs' cells slots Q (F0 m (pc + 3) ls rest)) : W p l e R s m args below meth c H locs cells slots Q (F0 m pc ls (.int n :: .int dp :: .ref dst :: .int sp :: .ref src :: rest)) :=
  p_cpI X hH (k := 2) (ty := .boolean) rfl rfl (fun z hz => by rcases hz rfl with rfl | rfl <;> rfl) hlk hna hst hin hls hframes hlo hf hdg kk
theorem p_ldcM (X : Cx G p s m args meth c cc nL own nm ret) {index : Nat} (hlk : Cond.classLink own index "[Ljava/lang/Object;" ∈ W0) (hdg : decode cc pc = .ok (.ldc index, 2))
    (kk : W p l e R s m args below meth c H locs cells slots Q (F0 m (pc + 2) ls (.ref (gMI G) :: rest))) : W p l e R s m args below meth c H locs cells slots Q (F0 m pc ls rest) := by
  obtain ⟨hx, hb, hml, hown, hts, hE, -⟩ := id X
  exact va_ldcM hx hb hown (hts _ hlk) hE.2.2.2.2.2.1.1 hdg kk
theorem p_getC (X : Cx G p s m args meth c cc nL own nm ret) (hH : Hx G s h H locs) {index : Nat} (hlk : Cond.methodLink own index ⟨"java/lang/Object", "getClass", "()Ljava/lang/Class;"⟩ ∈ W0) (hse : Cond.selects "[Ljava/lang/Object;" ⟨"java/lang/Object", "getClass", "()Ljava/lang/Class;"⟩ ⟨"java/lang/Object", "getClass", "()Ljava/lang/Class;"⟩ ∈ W0) (hin : Cond.instanceMethod ⟨"java/lang/Object", "getClass", "()Ljava/lang/Class;"⟩ ∈ W0) (hna : Cond.native ⟨"java/lang/Object", "getClass", "()Ljava/lang/Class;"⟩ ∈ W0) (hde : (⟨"java/lang/Object", "getClass", "()Ljava/lang/Class;"⟩ : MethodName) ∈ owD)
    (hls : ls.size = nL) (hframes : 1 ≤ R.frames) (hlo : (rest.map fun v => v.category).sum + 14 ≤ R.locals) {q : Nat} {F : Unit → Option β} (hf : rd (isA G h q) F = some Rr) (hdg : decode cc pc = .ok (.invokevirtual index, 3))
    (kk : ∀ u, F u = some Rr → W p l e R s m args below meth c H locs cells slots Q (F0 m (pc + 3) ls (.ref (gMI G) :: rest))) : W p l e R s m args below meth c H locs cells slots Q (F0 m pc ls (.ref q :: rest)) := by
  obtain ⟨u, h1, h2⟩ := rd_some hf
  have hS := Hx.S X hH
  obtain ⟨hx, hb, hml, hown, hts, hE, -⟩ := id X
  have hr : ∃ cell : Cell, H[q]? = some cell ∧ cell.vm.isStatics = false ∧ s.vm.findClass "[Ljava/lang/Object;" = some cell.cls := by
    unfold isA at h1
    split at h1
    · rename_i hq
      subst hq
      obtain ⟨cell, g1, g2, g3, g4⟩ := (hE.2.2.2.2.2.1.2.2).kept (hS0 X)
      exact ⟨cell, by rw [hS.2.1 _ (Array.getElem?_eq_some_iff.mp g1).1 g4]; exact g1, g2, g3⟩
    · split at h1
      · rename_i k a hc
        split at h1
        · rename_i hk
          subst hk
          have hcell := hH.1.at hc
          obtain ⟨f, hv⟩ := vp_arr (gT G 1) a
          have hcell : H[q]? = some (vp_cell (gT G 1) a) := hcell
          rw [hv] at hcell
          obtain ⟨_, _, _, _, _, h5⟩ := (hE.1.2 1 (gT G 1, .object "java/lang/Object") rfl).2
          exact ⟨_, hcell, rfl, h5⟩
        · cases h1
      · cases h1
  have hd : va_Nw (.declares ⟨"java/lang/Object", "getClass", "()Ljava/lang/Class;"⟩) s := hE.2.2.2.2.1 _ (List.mem_append_right _ (List.mem_map.mpr ⟨_, hde, rfl⟩))
  exact va_getC hx hb (hml.trans hls.symm) hown (hts _ hlk) (va_Nw.use rfl hd) (hts _ hse) (hts _ hin) (hts _ hna) hE.2.2.2.2.2.1.1 hr hframes hlo hdg (kk u h2)

end PRB
