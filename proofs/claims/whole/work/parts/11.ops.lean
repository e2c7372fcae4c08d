/-! ===== PURE STEPS over a pure heap ===== -/
def bd {α β : Type} (o : Option (α × PH)) (F : α → PH → Option β) : Option β := match o with
  | some x => F x.1 x.2
  | none => none
def rd {α β : Type} (o : Option α) (F : α → Option β) : Option β := match o with
  | some x => F x
  | none => none
theorem bd_some {α β : Type} {o : Option (α × PH)} {F : α → PH → Option β} {r : β} (h : bd o F = some r) : ∃ a h', o = some (a, h') ∧ F a h' = some r := by
  cases o with
  | none => cases h
  | some x => exact ⟨x.1, x.2, rfl, h⟩
theorem rd_some {α β : Type} {o : Option α} {F : α → Option β} {r : β} (h : rd o F = some r) : ∃ a, o = some a ∧ F a = some r := by
  cases o with
  | none => cases h
  | some x => exact ⟨x, rfl, h⟩
/-- a field -/
def oGet (ci : Nat) (h : PH) (q k : Nat) : Option Value := match h.2 q with
  | some (.inr (c, fs)) => if c = ci then fs[k]? else none
  | _ => none
def gI (ci : Nat) (h : PH) (q k : Nat) : Option Int32 := match oGet ci h q k with
  | some (.int x) => some x
  | _ => none
def gR (ci : Nat) (h : PH) (q k : Nat) : Option Nat := match oGet ci h q k with
  | some (.ref x) => some x
  | _ => none
def sF (ci : Nat) (h : PH) (q k : Nat) (v : Value) : Option PH := match h.2 q with
  | some (.inr (c, fs)) => if c = ci ∧ k < fs.length then some (h.1, va_up h.2 q (some (.inr (c, fs.set k v)))) else none
  | _ => none
def isC (ci : Nat) (h : PH) (q : Nat) : Option Unit := match h.2 q with
  | some (.inr (c, _)) => if c = ci then some () else none
  | _ => none
/-- arrays -/
def aLen (G : GE) (h : PH) (q : Nat) : Option Int32 := if q = gDE G then some 0 else match h.2 q with
  | some (.inl (k, n, _)) => if k < 4 then some (nI n) else none
  | _ => none
def aI (h : PH) (q : Nat) (i : Int32) : Option Int32 := match h.2 q with
  | some (.inl (k, n, .inl f)) => if k = 0 ∧ ¬ (i < 0 ∨ n ≤ i.toNatClampNeg) then some (f i.toNatClampNeg) else none
  | _ => none
def aIs (h : PH) (q : Nat) (i x : Int32) : Option PH := match h.2 q with
  | some (.inl (k, n, .inl f)) => if k = 0 ∧ ¬ (i < 0 ∨ n ≤ i.toNatClampNeg) then some (h.1, va_up h.2 q (some (.inl (0, n, .inl (upd f i.toNatClampNeg x))))) else none
  | _ => none
def aZ (h : PH) (q : Nat) (i : Int32) : Option Int32 := match h.2 q with
  | some (.inl (k, n, .inl f)) => if k = 2 ∧ ¬ (i < 0 ∨ n ≤ i.toNatClampNeg) then some (f i.toNatClampNeg) else none
  | _ => none
def aZs (h : PH) (q : Nat) (i x : Int32) : Option PH := match h.2 q with
  | some (.inl (k, n, .inl f)) => if k = 2 ∧ (x = 0 ∨ x = 1) ∧ ¬ (i < 0 ∨ n ≤ i.toNatClampNeg) then some (h.1, va_up h.2 q (some (.inl (2, n, .inl (upd f i.toNatClampNeg x))))) else none
  | _ => none
def aJ (h : PH) (q : Nat) (i : Int32) : Option Int64 := match h.2 q with
  | some (.inl (k, n, .inr (.inl f))) => if k = 3 ∧ ¬ (i < 0 ∨ n ≤ i.toNatClampNeg) then some (f i.toNatClampNeg) else none
  | _ => none
def aJs (h : PH) (q : Nat) (i : Int32) (x : Int64) : Option PH := match h.2 q with
  | some (.inl (k, n, .inr (.inl f))) => if k = 3 ∧ ¬ (i < 0 ∨ n ≤ i.toNatClampNeg) then some (h.1, va_up h.2 q (some (.inl (3, n, .inr (.inl (vp_updL f i.toNatClampNeg x)))))) else none
  | _ => none
def aR (h : PH) (q : Nat) (i : Int32) : Option Nat := match h.2 q with
  | some (.inl (k, n, .inr (.inr (.inr (.inr f))))) => if k = 1 ∧ ¬ (i < 0 ∨ n ≤ i.toNatClampNeg) then f i.toNatClampNeg else none
  | _ => none
/-- a reference is stored: null, or an object of ours -/
def aRs (h : PH) (q : Nat) (i : Int32) (r : Option Nat) : Option PH := match h.2 q with
  | some (.inl (k, n, .inr (.inr (.inr (.inr f))))) => if k = 1 ∧ ¬ (i < 0 ∨ n ≤ i.toNatClampNeg) then some (h.1, va_up h.2 q (some (.inl (1, n, .inr (.inr (.inr (.inr (va_up f i.toNatClampNeg r)))))))) else none
  | _ => none
def isO (h : PH) (q : Nat) : Option Unit := match h.2 q with
  | some (.inr (c, _)) => if c < 10 then some () else none
  | _ => none
/-- a new cell -/
def nw {β : Type} (h : PH) (c : PC) (F : Nat → PH → Option β) : Option β := F h.1 (h.1 + 1, va_up h.2 h.1 (some c))
def nwA {β : Type} (h : PH) (n : Int32) (B : Nat) (c : Nat → PC) (F : Nat → PH → Option β) : Option β := if ¬ n < 0 ∧ n.toNatClampNeg ≤ B then F h.1 (h.1 + 1, va_up h.2 h.1 (some (c n.toNatClampNeg))) else none
abbrev cI (n : Nat) : PC := .inl (0, n, .inl (fun _ => 0))
abbrev cZ (n : Nat) : PC := .inl (2, n, .inl (fun _ => 0))
abbrev cJ (n : Nat) : PC := .inl (3, n, .inr (.inl (fun _ => 0)))
abbrev cR (n : Nat) : PC := .inl (1, n, .inr (.inr (.inr (.inr (fun _ => none)))))
/-- guards -/
def nz {β : Type} (y : Int32) (F : Option β) : Option β := if y = 0 then none else F
def z1 {β : Type} (y : Int32) (F : Option β) : Option β := if y = 0 ∨ y = 1 then F else none
theorem nz_some {β : Type} {y : Int32} {F : Option β} {r : β} (h : nz y F = some r) : ¬ y = 0 ∧ F = some r := by
  unfold nz at h
  split at h
  · cases h
  · exact ⟨by assumption, h⟩
theorem z1_some {β : Type} {y : Int32} {F : Option β} {r : β} (h : z1 y F = some r) : (y = 0 ∨ y = 1) ∧ F = some r := by
  unfold z1 at h
  split at h
  · exact ⟨by assumption, h⟩
  · cases h
abbrev mxI (x y : Int32) : Int32 := if x < y then y else x
abbrev mnI (x y : Int32) : Int32 := if y < x then y else x
abbrev abI (x : Int32) : Int32 := if 0 ≤ x then x else 0 - x
/-- copies -/
def cpI (k : Nat) (h : PH) (src : Nat) (sp : Int32) (dst : Nat) (dp n : Int32) : Option PH := match h.2 src, h.2 dst with
  | some (.inl (k0, n0, .inl f)), some (.inl (k1, n1, .inl g)) =>
    if k0 = k ∧ k1 = k ∧ ¬ sp < 0 ∧ ¬ dp < 0 ∧ ¬ n < 0 ∧ sp.toNatClampNeg + n.toNatClampNeg ≤ n0 ∧ dp.toNatClampNeg + n.toNatClampNeg ≤ n1 ∧ (k = 2 → ∀ i, i < n.toNatClampNeg → f (sp.toNatClampNeg + i) = 0 ∨ f (sp.toNatClampNeg + i) = 1) ∧ src ≠ dst
    then some (h.1, va_up h.2 dst (some (.inl (k, n1, .inl (va_cpy f g sp.toNatClampNeg dp.toNatClampNeg n.toNatClampNeg))))) else none
  | _, _ => none
/-- the elements are null or objects of ours -/
def okR (h : PH) (f : Nat → Option Nat) (sp n : Nat) : Prop := ∀ i, i < n → ∀ y, f (sp + i) = some y → ∃ ci fs, h.2 y = some (.inr (ci, fs)) ∧ ci < 10
noncomputable def cpR (h : PH) (src : Nat) (sp : Int32) (dst : Nat) (dp n : Int32) : Option PH := match h.2 src, h.2 dst with
  | some (.inl (k0, n0, .inr (.inr (.inr (.inr f))))), some (.inl (k1, n1, .inr (.inr (.inr (.inr g))))) =>
    @ite _ (k0 = 1 ∧ k1 = 1 ∧ ¬ sp < 0 ∧ ¬ dp < 0 ∧ ¬ n < 0 ∧ sp.toNatClampNeg + n.toNatClampNeg ≤ n0 ∧ dp.toNatClampNeg + n.toNatClampNeg ≤ n1 ∧ okR h f sp.toNatClampNeg n.toNatClampNeg) (Classical.propDecidable _)
      (some (h.1, va_up h.2 dst (some (.inl (1, n1, .inr (.inr (.inr (.inr (va_cpy f g sp.toNatClampNeg dp.toNatClampNeg n.toNatClampNeg))))))))) none
  | _, _ => none
/-- an array of objects, for its class object -/
def isA (G : GE) (h : PH) (q : Nat) : Option Unit := if q = gDE G then some () else match h.2 q with
  | some (.inl (k, _)) => if k = 1 then some () else none
  | _ => none
abbrev rmI (x y : Int32) : Int32 := x - x / y * y
def ti {β : Type} (i : Int32) (F : Option β) : Option β := if ¬ (i < 0 ∨ 8 ≤ i.toNatClampNeg) then F else none
def ngd {β : Type} (z : UInt64) (F : Option β) : Option β := if z &&& 0x7fffffffffffffff ≤ 0x7ff0000000000000 then F else none
def LF : Nat := 100000
/-- loops by fuel -/
def lp {F : Type} (z : F) (body : F → F) : Nat → F
  | 0 => z
  | n + 1 => body (lp z body n)
/-! ===== what a body's rows rest on ===== -/
def Cx (G : GE) (p : Program) (s : State) (m : MethodId) (args : Array Value) (meth : Method) (c : Code) (cc : ByteArray) (nL : Nat) (own nm : String) (ret : Option FieldType) : Prop :=
  p.tables.exec = Jvm.exec ∧ c.code = cc ∧ c.maxLocals = nL ∧ s.vm.findClass own = some m.cls ∧ (∀ w ∈ W0, w.before args s = true) ∧ EvG G s ∧ meth.locks = false ∧ meth.name = nm ∧ meth.sig.returnType = ret ∧ gB G ≤ s.heap.size ∧ ∀ q : Nat, q < gB G → s.heap[q]? = (gH G)[q]?
def Hx (G : GE) (s : State) (h : PH) (H : Heap) (locs : List Loc) : Prop := Hd G h H ∧ s.heap.size ≤ H.size ∧ ∀ z ∈ locs, gB G ≤ z.base
theorem Hx.S {G : GE} {p : Program} {s : State} {m : MethodId} {args : Array Value} {meth : Method} {c : Code} {cc : ByteArray} {nL : Nat} {own nm : String} {ret : Option FieldType} {h : PH} {H : Heap} {locs : List Loc} (X : Cx G p s m args meth c cc nL own nm ret) (hH : Hx G s h H locs) : va_S (gA G) s.heap H locs := by
  refine ⟨hH.2.1, fun q h1 h2 => ?_, hH.2.2⟩
  have hq : q < gB G := Nat.lt_of_not_le h2
  rw [hH.1.2.2.1 q hq, X.2.2.2.2.2.2.2.2.2.2 q hq]
theorem Hd.P1 {G : GE} {h : PH} {H : Heap} (hH : Hd G h H) {q : Nat} {c : PC} (hc : h.2 q = some c) : va_P (gD G) vwCl [(q, toE G c)] H := by
  intro k x hx
  have hz : k < 1 := (List.getElem?_eq_some_iff.mp hx).1
  rw [show k = 0 by omega] at hx
  cases hx
  exact (hH.2.2.2 q c hc).1
theorem Hd.D1 {G : GE} {h : PH} {H : Heap} (hH : Hd G h H) {q : Nat} {c : PC} (hc : h.2 q = some c) : va_D (gA G) [(q, toE G c)] := by
  refine ⟨fun i j x y hi hj _ => ?_, fun k x hx => ?_⟩
  · have h1 : i < 1 := (List.getElem?_eq_some_iff.mp hi).1
    have h2 : j < 1 := (List.getElem?_eq_some_iff.mp hj).1
    omega
  · have hz : k < 1 := (List.getElem?_eq_some_iff.mp hx).1
    rw [show k = 0 by omega] at hx
    cases hx
    exact (hH.2.2.2 q c hc).2
/-- behind a write at q -/
theorem Hd.set {G : GE} {h : PH} {H H1 : Heap} (hH : Hd G h H) {q : Nat} {c c2 : PC} (hc : h.2 q = some c) (h1 : va_P (gD G) vwCl [(q, toE G c2)] H1) (hz : H1.size = H.size) (oq : ∀ x : Nat, x ≠ q → H1[x]? = H[x]?) : Hd G (h.1, va_up h.2 q (some c2)) H1 := by
  obtain ⟨a1, a2, a3, a4⟩ := hH
  have hqb := (a4 q c hc).2
  refine ⟨by rw [hz]; exact a1, a2, fun x hx => ?_, fun x cx hx => ?_⟩
  · rw [oq x (by omega)]
    exact a3 x hx
  · by_cases e : x = q
    · subst e
      have hx2 : (some c2 : Option PC) = some cx := by
        have := hx
        simpa [va_up] using this
      cases hx2
      exact ⟨h1 0 _ rfl, hqb⟩
    · have hx2 : h.2 x = some cx := by simpa [va_up, e] using hx
      exact ⟨(a4 x cx hx2).1.kept (oq x e), (a4 x cx hx2).2⟩
/-- behind a making -/
theorem Hd.new {G : GE} {h : PH} {H H1 : Heap} (hH : Hd G h H) {c2 : PC} (h1 : va_P (gD G) vwCl [(H.size, toE G c2)] H1) (hz : H1.size = H.size + 1) (oq : ∀ x : Nat, x < H.size → H1[x]? = H[x]?) : Hd G (h.1 + 1, va_up h.2 h.1 (some c2)) H1 := by
  obtain ⟨a1, a2, a3, a4⟩ := hH
  refine ⟨by rw [hz, a1], Nat.le_succ_of_le a2, fun x hx => ?_, fun x cx hx => ?_⟩
  · rw [oq x (by rw [a1]; exact Nat.lt_of_lt_of_le hx a2)]
    exact a3 x hx
  · by_cases e : x = h.1
    · subst e
      have hx2 : (some c2 : Option PC) = some cx := by
        have := hx
        simpa [va_up] using this
      cases hx2
      rw [← a1]
      exact ⟨h1 0 _ rfl, by rw [a1]; exact a2⟩
    · have hx2 : h.2 x = some cx := by simpa [va_up, e] using hx
      exact ⟨(a4 x cx hx2).1.kept (oq x ((a4 x cx hx2).1.lt)), (a4 x cx hx2).2⟩
