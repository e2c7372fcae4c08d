/-! ===== the objects' layout ===== -/
abbrev Lb := Unit ⊕ Unit ⊕ Unit ⊕ Bool ⊕ Bool ⊕ Nat ⊕ Nat ⊕ Nat ⊕ Nat ⊕ Nat ⊕ Nat ⊕ Nat ⊕ (Bool × Nat) ⊕ (Bool × Nat)
abbrev bV : Lb := .inl ()
abbrev bX : Lb := .inr (.inl ())
abbrev bO : Lb := .inr (.inr (.inl ()))
abbrev btn (b : Bool) : Lb := .inr (.inr (.inr (.inl b)))
abbrev bst (b : Bool) : Lb := .inr (.inr (.inr (.inr (.inl b))))
abbrev bL (k : Nat) : Lb := .inr (.inr (.inr (.inr (.inr (.inl k)))))
abbrev bA (k : Nat) : Lb := .inr (.inr (.inr (.inr (.inr (.inr (.inl k))))))
abbrev bwn (i : Nat) : Lb := .inr (.inr (.inr (.inr (.inr (.inr (.inr (.inl i)))))))
abbrev bmo (i : Nat) : Lb := .inr (.inr (.inr (.inr (.inr (.inr (.inr (.inr (.inl i))))))))
abbrev bae (i : Nat) : Lb := .inr (.inr (.inr (.inr (.inr (.inr (.inr (.inr (.inr (.inl i)))))))))
abbrev bms (i : Nat) : Lb := .inr (.inr (.inr (.inr (.inr (.inr (.inr (.inr (.inr (.inr (.inl i))))))))))
abbrev bho (i : Nat) : Lb := .inr (.inr (.inr (.inr (.inr (.inr (.inr (.inr (.inr (.inr (.inr (.inl i)))))))))))
abbrev bvn (b : Bool) (i : Nat) : Lb := .inr (.inr (.inr (.inr (.inr (.inr (.inr (.inr (.inr (.inr (.inr (.inr (.inl (b, i)))))))))))))
abbrev bsa (b : Bool) (k : Nat) : Lb := .inr (.inr (.inr (.inr (.inr (.inr (.inr (.inr (.inr (.inr (.inr (.inr (.inr (b, k)))))))))))))
/-- the numbers: by group, index and field; the counts; the law's cell; the places -/
abbrev Zs := (Nat → Nat → Nat → Int32) × (Nat → Nat) × (Nat → Int64) × (Lb → Nat)
/-- groups: 0 of the house (row 0 hour, passings; row 1 thrown), 1 winds, 2 motions, 3 agenda, 4 masts, 5 higher ones, 6 and 7 vanes, 8 the lists' changes; 10 and on, 20 and on of the model's states: 0 (row 0: the fields), 1 winds (three rows), 2 vanes, 3 motions, 4 agenda -/
def gv : Bool → Nat
  | false => 6
  | true => 7
def gm : Bool → Nat → Nat
  | false, j => 10 + j
  | true, j => 20 + j
/-- counts: 0 winds, 1 motions, 2 agenda, 3 masts, 4 and 5 vanes, 6 the first wind's place; 50 and on the lists' lengths; 60 and on their capacities -/
def nv : Bool → Nat
  | false => 4
  | true => 5
def u1 {α : Type} (f : Nat → α) (i : Nat) (x : α) : Nat → α := fun a => if a = i then x else f a
/-- a group, a row, a number written -/
def uG (z : Zs) (g : Nat) (F : Nat → Nat → Int32) : Zs := (fun a => if a = g then F else z.1 a, z.2)
def uR (z : Zs) (g i : Nat) (r : Nat → Int32) : Zs := uG z g (u1 (z.1 g) i r)
def uI (z : Zs) (g i k : Nat) (x : Int32) : Zs := uR z g i (u1 (z.1 g i) k x)
def uN (z : Zs) (g x : Nat) : Zs := (z.1, fun a => if a = g then x else z.2.1 a, z.2.2)
def uO (z : Zs) (k : Nat) (x : Int64) : Zs := (z.1, z.2.1, vp_updL z.2.2.1 k x, z.2.2.2)
def lb : Bool → Nat
  | false => 3
  | true => 4
/-- the elements of the list k -/
def el (k i : Nat) : Lb := match k with
  | 0 => bwn i
  | 1 => bmo i
  | 2 => bae i
  | 3 => bvn false i
  | _ => bvn true i
/-- an array of rows of d -/
def fl (d : Nat) (f : Nat → Nat → Int32) : Nat → Int32 := fun j => f (j / d) (j % d)
def saC (z : Zs) (b : Bool) : Nat → Option PC
  | 0 => some (.inl (0, 24, .inl (z.1 (gm b 1) 0)))
  | 1 => some (.inl (0, 24, .inl (z.1 (gm b 1) 1)))
  | 2 => some (.inl (2, 24, .inl (z.1 (gm b 1) 2)))
  | 3 => some (.inl (0, 160, .inl (fl 10 (z.1 (gm b 2)))))
  | 4 => some (.inl (0, 72, .inl (fl 6 (z.1 (gm b 3)))))
  | 5 => some (.inl (0, 40, .inl (fl 2 (z.1 (gm b 4)))))
  | _ => none
/-- the eighth that a wind comes from -/
def kEighth (d : Int32) : Int32 := ((((d + (8 : Int32)) - (d + (8 : Int32)) / (16 : Int32) * (16 : Int32)) + (1 : Int32)) / (2 : Int32)) - ((((d + (8 : Int32)) - (d + (8 : Int32)) / (16 : Int32) * (16 : Int32)) + (1 : Int32)) / (2 : Int32)) / (8 : Int32) * (8 : Int32)
def ct (G : GE) (z : Zs) : Lb → Option PC
  | .inl () => some (.inr (7, [.ref (z.2.1 6), .ref (z.2.2.2 (bL 0)), .ref (z.2.2.2 (bL 1)), .ref (z.2.2.2 (bL 2)), .ref (z.2.2.2 (btn false)), .ref (z.2.2.2 (btn true)), .int (z.1 0 0 0), .int (z.1 0 0 1)]))
  | .inr (.inl ()) => some (.inr (9, [.int (z.1 0 1 0), .ref (z.2.2.2 (bst false)), .ref (z.2.2.2 (bst true))]))
  | .inr (.inr (.inl ())) => some (.inl (3, 1, .inr (.inl z.2.2.1)))
  | .inr (.inr (.inr (.inl b))) => some (.inr (4, [.ref (z.2.2.2 (bL (lb b)))]))
  | .inr (.inr (.inr (.inr (.inl b)))) => some (.inr (8, [.int (z.1 (gm b 0) 0 0), .int (z.1 (gm b 0) 0 1), .ref (z.2.2.2 (bsa b 0)), .ref (z.2.2.2 (bsa b 1)), .ref (z.2.2.2 (bsa b 2)), .int (z.1 (gm b 0) 0 5), .ref (z.2.2.2 (bsa b 3)), .int (z.1 (gm b 0) 0 7), .ref (z.2.2.2 (bsa b 4)), .int (z.1 (gm b 0) 0 9), .ref (z.2.2.2 (bsa b 5)), .int (z.1 (gm b 0) 0 11)]))
  | .inr (.inr (.inr (.inr (.inr (.inl k))))) => if k < 5 then some (.inr (0, [.int (z.1 8 k 0), .ref (if z.2.1 (60 + k) = 0 then gDE G else z.2.2.2 (bA k)), .int (nI ((z.2.1 (50 + k))))])) else none
  | .inr (.inr (.inr (.inr (.inr (.inr (.inl k)))))) => if k < 5 ∧ ¬ z.2.1 (60 + k) = 0 then some (.inl (1, z.2.1 (60 + k), .inr (.inr (.inr (.inr (fun i => if i < z.2.1 (50 + k) then some (z.2.2.2 (el k i)) else none)))))) else none
  | .inr (.inr (.inr (.inr (.inr (.inr (.inr (.inl i))))))) => if i < z.2.1 0 then some (.inr (6, [.int (z.1 1 i 0), .int (z.1 1 i 1), .int (z.1 1 i 2), .int (kEighth (z.1 1 i 0))])) else none
  | .inr (.inr (.inr (.inr (.inr (.inr (.inr (.inr (.inl i)))))))) => if i < z.2.1 1 then some (.inr (3, [.int (nI i), .int (z.1 2 i 0), .int (z.1 2 i 1), .int (z.1 2 i 2), .int (z.1 2 i 3), .int (z.1 2 i 4), .int (z.1 2 i 5)])) else none
  | .inr (.inr (.inr (.inr (.inr (.inr (.inr (.inr (.inr (.inl i))))))))) => if i < z.2.1 2 then some (.inr (1, [.ref (z.2.2.2 (bmo (z.1 3 i 0).toNatClampNeg)), .int (z.1 3 i 1)])) else none
  | .inr (.inr (.inr (.inr (.inr (.inr (.inr (.inr (.inr (.inr (.inl i)))))))))) => if i < z.2.1 3 then some (.inr (2, [.int (z.1 4 i 0), .int (z.1 4 i 1), .int (z.1 4 i 2), .int (z.1 4 i 3), .ref (z.2.2.2 (bho i))])) else none
  | .inr (.inr (.inr (.inr (.inr (.inr (.inr (.inr (.inr (.inr (.inr (.inl i))))))))))) => if i < z.2.1 3 then some (.inl (0, 8, .inl (z.1 5 i))) else none
  | .inr (.inr (.inr (.inr (.inr (.inr (.inr (.inr (.inr (.inr (.inr (.inr (.inl (b, i))))))))))))) => if i < z.2.1 (nv b) then some (.inr (5, [.ref (z.2.2.2 (bms i)), .int (z.1 (gv b) i 4), .int (z.1 (gv b) i 5), .int (z.1 (gv b) i 6), .int (z.1 (gv b) i 7), .int (z.1 (gv b) i 8), .int (z.1 (gv b) i 9)])) else none
  | .inr (.inr (.inr (.inr (.inr (.inr (.inr (.inr (.inr (.inr (.inr (.inr (.inr (b, k))))))))))))) => saC z b k
/-- the heap holds the objects, each at its own place -/
def Rq (G : GE) (ct : Lb → Option PC) (ad : Lb → Nat) (h : PH) : Prop :=
  gDE G < h.1 ∧ (∀ l l' c c', ct l = some c → ct l' = some c' → ad l = ad l' → l = l') ∧ ∀ l c, ct l = some c → h.2 (ad l) = some c ∧ ad l < h.1 ∧ gDE G < ad l
def WL (z : Zs) : Prop := ∀ k, k < 5 → z.2.1 (50 + k) ≤ z.2.1 (60 + k) ∧ z.2.1 (60 + k) ≤ 36
def Rp (G : GE) (z : Zs) (h : PH) : Prop := Rq G (ct G z) z.2.2.2 h ∧ WL z
theorem Rq.wr {G : GE} {c0 c1 : Lb → Option PC} {ad : Lb → Nat} {h : PH} (R : Rq G c0 ad h) (l : Lb) {c : PC} (c' : PC) (hc : c0 l = some c) (hs : c1 l = some c') (ho : ∀ k, k ≠ l → c1 k = c0 k) : Rq G c1 ad (h.1, va_up h.2 (ad l) (some c')) := by
  have key : ∀ k d, c1 k = some d → ∃ d', c0 k = some d' := fun k d hk => by
    by_cases e : k = l
    · exact ⟨c, e ▸ hc⟩
    · exact ⟨d, (ho k e) ▸ hk⟩
  refine ⟨R.1, fun k k' d d' hk hk' e => ?_, fun k d hk => ?_⟩
  · obtain ⟨q, h1⟩ := key k d hk
    obtain ⟨q', h2⟩ := key k' d' hk'
    exact R.2.1 k k' q q' h1 h2 e
  · obtain ⟨q, h1⟩ := key k d hk
    refine ⟨?_, (R.2.2 k q h1).2⟩
    by_cases e : k = l
    · subst e
      rw [hs] at hk
      simp only [va_up, if_pos]
      exact hk
    · have h2 : ad k ≠ ad l := fun h3 => e (R.2.1 k l q c h1 hc h3)
      simp only [va_up, if_neg h2]
      rw [← ho k e] at h1
      rw [ho k e] at hk
      exact (R.2.2 k d hk).1
theorem Rq.nw {G : GE} {c0 c1 : Lb → Option PC} {ad ad' : Lb → Nat} {h : PH} (R : Rq G c0 ad h) (l : Lb) (c' : PC) (hs : c1 l = some c') (ho : ∀ k d, k ≠ l → c1 k = some d → c0 k = some d) (ha : ad' l = h.1) (hb : ∀ k, k ≠ l → ad' k = ad k) : Rq G c1 ad' (h.1 + 1, va_up h.2 h.1 (some c')) := by
  refine ⟨Nat.lt_succ_of_lt R.1, fun k k' d d' hk hk' e => ?_, fun k d hk => ?_⟩
  · by_cases e1 : k = l
    · by_cases e2 : k' = l
      · rw [e1, e2]
      · rw [e1, ha, hb k' e2] at e
        have := (R.2.2 k' d' (ho k' d' e2 hk')).2.1
        omega
    · by_cases e2 : k' = l
      · rw [e2, ha, hb k e1] at e
        have := (R.2.2 k d (ho k d e1 hk)).2.1
        omega
      · rw [hb k e1, hb k' e2] at e
        exact R.2.1 k k' d d' (ho k d e1 hk) (ho k' d' e2 hk') e
  · by_cases e1 : k = l
    · subst e1
      rw [hs] at hk
      cases hk
      rw [ha]
      exact ⟨by simp [va_up], Nat.lt_succ_self _, R.1⟩
    · have h1 := R.2.2 k d (ho k d e1 hk)
      rw [hb k e1]
      have h2 : ad k ≠ h.1 := by omega
      exact ⟨by simp [va_up, h2, h1.1], Nat.lt_succ_of_lt h1.2.1, h1.2.2⟩
/-- other names, fewer objects -/
theorem Rq.re {G : GE} {c0 c1 : Lb → Option PC} {ad ad' : Lb → Nat} {h : PH} (R : Rq G c0 ad h) (f : Lb → Lb) (hf : ∀ k k' d d', c1 k = some d → c1 k' = some d' → f k = f k' → k = k') (hs : ∀ k d, c1 k = some d → c0 (f k) = some d ∧ ad' k = ad (f k)) : Rq G c1 ad' h := by
  refine ⟨R.1, fun k k' d d' hk hk' e => ?_, fun k d hk => ?_⟩
  · obtain ⟨h1, h2⟩ := hs k d hk
    obtain ⟨h3, h4⟩ := hs k' d' hk'
    rw [h2, h4] at e
    exact hf k k' d d' hk hk' (R.2.1 _ _ d d' h1 h3 e)
  · obtain ⟨h1, h2⟩ := hs k d hk
    rw [h2]
    exact R.2.2 _ _ h1
theorem Rq.sz {G : GE} {c0 : Lb → Option PC} {ad : Lb → Nat} {h : PH} (R : Rq G c0 ad h) (l : Lb) {c : PC} (hl : c0 l = some c) (sz : Nat) (hz : ∀ q c, h.2 q = some c → q < sz) : Rq G c0 ad (sz, h.2) := by
  have h1 : ∀ k d, c0 k = some d → ad k < sz := fun k d hk => hz _ _ (R.2.2 k d hk).1
  refine ⟨?_, R.2.1, fun k d hk => ⟨(R.2.2 k d hk).1, h1 k d hk, (R.2.2 k d hk).2.2⟩⟩
  exact Nat.lt_trans (R.2.2 l c hl).2.2 (h1 l c hl)
theorem Rp.at {G : GE} {z : Zs} {h : PH} (R : Rp G z h) {l : Lb} {c : PC} (hl : ct G z l = some c) : h.2 (z.2.2.2 l) = some c := (R.1.2.2 l c hl).1
theorem Rp.de {G : GE} {z : Zs} {h : PH} (R : Rp G z h) {l : Lb} {c : PC} (hl : ct G z l = some c) : ¬ z.2.2.2 l = gDE G := fun e => by
  have := (R.1.2.2 l c hl).2.2
  omega
theorem rd_s {α β : Type} (a : α) (F : α → Option β) : rd (some a) F = F a := rfl
theorem bd_s {α β : Type} (x : α × PH) (F : α → PH → Option β) : bd (some x) F = F x.1 x.2 := rfl
theorem z1_0 {β : Type} (F : Option β) : z1 (0 : Int32) F = F := rfl
theorem z1_1 {β : Type} (F : Option β) : z1 (1 : Int32) F = F := rfl
theorem gI_of {ci : Nat} {h : PH} {q k : Nat} {fs : List Value} {x : Int32} (hq : h.2 q = some (.inr (ci, fs))) (hk : fs[k]? = some (.int x)) : gI ci h q k = some x := by
  simp [gI, oGet, hq, hk]
theorem gR_of {ci : Nat} {h : PH} {q k : Nat} {fs : List Value} {x : Nat} (hq : h.2 q = some (.inr (ci, fs))) (hk : fs[k]? = some (.ref x)) : gR ci h q k = some x := by
  simp [gR, oGet, hq, hk]
theorem isC_of {ci : Nat} {h : PH} {q : Nat} {fs : List Value} (hq : h.2 q = some (.inr (ci, fs))) : isC ci h q = some () := by
  simp [isC, hq]
theorem sF_of {ci : Nat} {h : PH} {q : Nat} {fs : List Value} (k : Nat) (v : Value) (hq : h.2 q = some (.inr (ci, fs))) (hk : k < fs.length) : sF ci h q k v = some (h.1, va_up h.2 q (some (.inr (ci, fs.set k v)))) := by
  simp [sF, hq, hk]
theorem e_V {G : GE} {z : Zs}  : ct G z bV = some (.inr (7, [.ref (z.2.1 6), .ref (z.2.2.2 (bL 0)), .ref (z.2.2.2 (bL 1)), .ref (z.2.2.2 (bL 2)), .ref (z.2.2.2 (btn false)), .ref (z.2.2.2 (btn true)), .int (z.1 0 0 0), .int (z.1 0 0 1)])) := rfl
theorem c_oV {G : GE} {z : Zs} {h : PH} (R : Rp G z h)  : isC 7 h (z.2.2.2 bV) = some () := isC_of (R.at (e_V))
theorem g_V_0 {G : GE} {z : Zs} {h : PH} (R : Rp G z h)  : gR 7 h (z.2.2.2 bV) 0 = some (z.2.1 6) := gR_of (R.at (e_V)) rfl
theorem g_V_1 {G : GE} {z : Zs} {h : PH} (R : Rp G z h)  : gR 7 h (z.2.2.2 bV) 1 = some (z.2.2.2 (bL 0)) := gR_of (R.at (e_V)) rfl
theorem g_V_2 {G : GE} {z : Zs} {h : PH} (R : Rp G z h)  : gR 7 h (z.2.2.2 bV) 2 = some (z.2.2.2 (bL 1)) := gR_of (R.at (e_V)) rfl
theorem g_V_3 {G : GE} {z : Zs} {h : PH} (R : Rp G z h)  : gR 7 h (z.2.2.2 bV) 3 = some (z.2.2.2 (bL 2)) := gR_of (R.at (e_V)) rfl
theorem g_V_4 {G : GE} {z : Zs} {h : PH} (R : Rp G z h)  : gR 7 h (z.2.2.2 bV) 4 = some (z.2.2.2 (btn false)) := gR_of (R.at (e_V)) rfl
theorem g_V_5 {G : GE} {z : Zs} {h : PH} (R : Rp G z h)  : gR 7 h (z.2.2.2 bV) 5 = some (z.2.2.2 (btn true)) := gR_of (R.at (e_V)) rfl
theorem g_V_6 {G : GE} {z : Zs} {h : PH} (R : Rp G z h)  : gI 7 h (z.2.2.2 bV) 6 = some (z.1 0 0 0) := gI_of (R.at (e_V)) rfl
theorem g_V_7 {G : GE} {z : Zs} {h : PH} (R : Rp G z h)  : gI 7 h (z.2.2.2 bV) 7 = some (z.1 0 0 1) := gI_of (R.at (e_V)) rfl
theorem e_X {G : GE} {z : Zs}  : ct G z bX = some (.inr (9, [.int (z.1 0 1 0), .ref (z.2.2.2 (bst false)), .ref (z.2.2.2 (bst true))])) := rfl
theorem c_oX {G : GE} {z : Zs} {h : PH} (R : Rp G z h)  : isC 9 h (z.2.2.2 bX) = some () := isC_of (R.at (e_X))
theorem g_X_0 {G : GE} {z : Zs} {h : PH} (R : Rp G z h)  : gI 9 h (z.2.2.2 bX) 0 = some (z.1 0 1 0) := gI_of (R.at (e_X)) rfl
theorem g_X_1 {G : GE} {z : Zs} {h : PH} (R : Rp G z h)  : gR 9 h (z.2.2.2 bX) 1 = some (z.2.2.2 (bst false)) := gR_of (R.at (e_X)) rfl
theorem g_X_2 {G : GE} {z : Zs} {h : PH} (R : Rp G z h)  : gR 9 h (z.2.2.2 bX) 2 = some (z.2.2.2 (bst true)) := gR_of (R.at (e_X)) rfl
theorem e_tn {G : GE} {z : Zs} {b : Bool} : ct G z (btn b) = some (.inr (4, [.ref (z.2.2.2 (bL (lb b)))])) := rfl
theorem c_otn {G : GE} {z : Zs} {h : PH} (R : Rp G z h) {b : Bool} : isC 4 h (z.2.2.2 (btn b)) = some () := isC_of (R.at (e_tn))
theorem g_tn_0 {G : GE} {z : Zs} {h : PH} (R : Rp G z h) {b : Bool} : gR 4 h (z.2.2.2 (btn b)) 0 = some (z.2.2.2 (bL (lb b))) := gR_of (R.at (e_tn)) rfl
theorem e_st {G : GE} {z : Zs} {b : Bool} : ct G z (bst b) = some (.inr (8, [.int (z.1 (gm b 0) 0 0), .int (z.1 (gm b 0) 0 1), .ref (z.2.2.2 (bsa b 0)), .ref (z.2.2.2 (bsa b 1)), .ref (z.2.2.2 (bsa b 2)), .int (z.1 (gm b 0) 0 5), .ref (z.2.2.2 (bsa b 3)), .int (z.1 (gm b 0) 0 7), .ref (z.2.2.2 (bsa b 4)), .int (z.1 (gm b 0) 0 9), .ref (z.2.2.2 (bsa b 5)), .int (z.1 (gm b 0) 0 11)])) := rfl
theorem c_ost {G : GE} {z : Zs} {h : PH} (R : Rp G z h) {b : Bool} : isC 8 h (z.2.2.2 (bst b)) = some () := isC_of (R.at (e_st))
theorem g_st_0 {G : GE} {z : Zs} {h : PH} (R : Rp G z h) {b : Bool} : gI 8 h (z.2.2.2 (bst b)) 0 = some (z.1 (gm b 0) 0 0) := gI_of (R.at (e_st)) rfl
theorem g_st_1 {G : GE} {z : Zs} {h : PH} (R : Rp G z h) {b : Bool} : gI 8 h (z.2.2.2 (bst b)) 1 = some (z.1 (gm b 0) 0 1) := gI_of (R.at (e_st)) rfl
theorem g_st_2 {G : GE} {z : Zs} {h : PH} (R : Rp G z h) {b : Bool} : gR 8 h (z.2.2.2 (bst b)) 2 = some (z.2.2.2 (bsa b 0)) := gR_of (R.at (e_st)) rfl
theorem g_st_3 {G : GE} {z : Zs} {h : PH} (R : Rp G z h) {b : Bool} : gR 8 h (z.2.2.2 (bst b)) 3 = some (z.2.2.2 (bsa b 1)) := gR_of (R.at (e_st)) rfl
theorem g_st_4 {G : GE} {z : Zs} {h : PH} (R : Rp G z h) {b : Bool} : gR 8 h (z.2.2.2 (bst b)) 4 = some (z.2.2.2 (bsa b 2)) := gR_of (R.at (e_st)) rfl
theorem g_st_5 {G : GE} {z : Zs} {h : PH} (R : Rp G z h) {b : Bool} : gI 8 h (z.2.2.2 (bst b)) 5 = some (z.1 (gm b 0) 0 5) := gI_of (R.at (e_st)) rfl
theorem g_st_6 {G : GE} {z : Zs} {h : PH} (R : Rp G z h) {b : Bool} : gR 8 h (z.2.2.2 (bst b)) 6 = some (z.2.2.2 (bsa b 3)) := gR_of (R.at (e_st)) rfl
theorem g_st_7 {G : GE} {z : Zs} {h : PH} (R : Rp G z h) {b : Bool} : gI 8 h (z.2.2.2 (bst b)) 7 = some (z.1 (gm b 0) 0 7) := gI_of (R.at (e_st)) rfl
theorem g_st_8 {G : GE} {z : Zs} {h : PH} (R : Rp G z h) {b : Bool} : gR 8 h (z.2.2.2 (bst b)) 8 = some (z.2.2.2 (bsa b 4)) := gR_of (R.at (e_st)) rfl
theorem g_st_9 {G : GE} {z : Zs} {h : PH} (R : Rp G z h) {b : Bool} : gI 8 h (z.2.2.2 (bst b)) 9 = some (z.1 (gm b 0) 0 9) := gI_of (R.at (e_st)) rfl
theorem g_st_10 {G : GE} {z : Zs} {h : PH} (R : Rp G z h) {b : Bool} : gR 8 h (z.2.2.2 (bst b)) 10 = some (z.2.2.2 (bsa b 5)) := gR_of (R.at (e_st)) rfl
theorem g_st_11 {G : GE} {z : Zs} {h : PH} (R : Rp G z h) {b : Bool} : gI 8 h (z.2.2.2 (bst b)) 11 = some (z.1 (gm b 0) 0 11) := gI_of (R.at (e_st)) rfl
theorem e_L {G : GE} {z : Zs} {k : Nat} (hi : k < 5) : ct G z (bL k) = some (.inr (0, [.int (z.1 8 k 0), .ref (if z.2.1 (60 + k) = 0 then gDE G else z.2.2.2 (bA k)), .int (nI ((z.2.1 (50 + k))))])) := by simp [ct, hi]
theorem c_oL {G : GE} {z : Zs} {h : PH} (R : Rp G z h) {k : Nat} (hi : k < 5) : isC 0 h (z.2.2.2 (bL k)) = some () := isC_of (R.at (e_L hi))
theorem g_L_0 {G : GE} {z : Zs} {h : PH} (R : Rp G z h) {k : Nat} (hi : k < 5) : gI 0 h (z.2.2.2 (bL k)) 0 = some (z.1 8 k 0) := gI_of (R.at (e_L hi)) rfl
theorem g_L_1 {G : GE} {z : Zs} {h : PH} (R : Rp G z h) {k : Nat} (hi : k < 5) : gR 0 h (z.2.2.2 (bL k)) 1 = some (if z.2.1 (60 + k) = 0 then gDE G else z.2.2.2 (bA k)) := gR_of (R.at (e_L hi)) rfl
theorem g_L_2 {G : GE} {z : Zs} {h : PH} (R : Rp G z h) {k : Nat} (hi : k < 5) : gI 0 h (z.2.2.2 (bL k)) 2 = some (nI ((z.2.1 (50 + k)))) := gI_of (R.at (e_L hi)) rfl
theorem e_wn {G : GE} {z : Zs} {i : Nat} (hi : i < z.2.1 0) : ct G z (bwn i) = some (.inr (6, [.int (z.1 1 i 0), .int (z.1 1 i 1), .int (z.1 1 i 2), .int (kEighth (z.1 1 i 0))])) := by simp [ct, hi]
theorem c_own {G : GE} {z : Zs} {h : PH} (R : Rp G z h) {i : Nat} (hi : i < z.2.1 0) : isC 6 h (z.2.2.2 (bwn i)) = some () := isC_of (R.at (e_wn hi))
theorem g_wn_0 {G : GE} {z : Zs} {h : PH} (R : Rp G z h) {i : Nat} (hi : i < z.2.1 0) : gI 6 h (z.2.2.2 (bwn i)) 0 = some (z.1 1 i 0) := gI_of (R.at (e_wn hi)) rfl
theorem g_wn_1 {G : GE} {z : Zs} {h : PH} (R : Rp G z h) {i : Nat} (hi : i < z.2.1 0) : gI 6 h (z.2.2.2 (bwn i)) 1 = some (z.1 1 i 1) := gI_of (R.at (e_wn hi)) rfl
theorem g_wn_2 {G : GE} {z : Zs} {h : PH} (R : Rp G z h) {i : Nat} (hi : i < z.2.1 0) : gI 6 h (z.2.2.2 (bwn i)) 2 = some (z.1 1 i 2) := gI_of (R.at (e_wn hi)) rfl
theorem g_wn_3 {G : GE} {z : Zs} {h : PH} (R : Rp G z h) {i : Nat} (hi : i < z.2.1 0) : gI 6 h (z.2.2.2 (bwn i)) 3 = some (kEighth (z.1 1 i 0)) := gI_of (R.at (e_wn hi)) rfl
theorem e_mo {G : GE} {z : Zs} {i : Nat} (hi : i < z.2.1 1) : ct G z (bmo i) = some (.inr (3, [.int (nI i), .int (z.1 2 i 0), .int (z.1 2 i 1), .int (z.1 2 i 2), .int (z.1 2 i 3), .int (z.1 2 i 4), .int (z.1 2 i 5)])) := by simp [ct, hi]
theorem c_omo {G : GE} {z : Zs} {h : PH} (R : Rp G z h) {i : Nat} (hi : i < z.2.1 1) : isC 3 h (z.2.2.2 (bmo i)) = some () := isC_of (R.at (e_mo hi))
theorem g_mo_0 {G : GE} {z : Zs} {h : PH} (R : Rp G z h) {i : Nat} (hi : i < z.2.1 1) : gI 3 h (z.2.2.2 (bmo i)) 0 = some (nI i) := gI_of (R.at (e_mo hi)) rfl
theorem g_mo_1 {G : GE} {z : Zs} {h : PH} (R : Rp G z h) {i : Nat} (hi : i < z.2.1 1) : gI 3 h (z.2.2.2 (bmo i)) 1 = some (z.1 2 i 0) := gI_of (R.at (e_mo hi)) rfl
theorem g_mo_2 {G : GE} {z : Zs} {h : PH} (R : Rp G z h) {i : Nat} (hi : i < z.2.1 1) : gI 3 h (z.2.2.2 (bmo i)) 2 = some (z.1 2 i 1) := gI_of (R.at (e_mo hi)) rfl
theorem g_mo_3 {G : GE} {z : Zs} {h : PH} (R : Rp G z h) {i : Nat} (hi : i < z.2.1 1) : gI 3 h (z.2.2.2 (bmo i)) 3 = some (z.1 2 i 2) := gI_of (R.at (e_mo hi)) rfl
theorem g_mo_4 {G : GE} {z : Zs} {h : PH} (R : Rp G z h) {i : Nat} (hi : i < z.2.1 1) : gI 3 h (z.2.2.2 (bmo i)) 4 = some (z.1 2 i 3) := gI_of (R.at (e_mo hi)) rfl
theorem g_mo_5 {G : GE} {z : Zs} {h : PH} (R : Rp G z h) {i : Nat} (hi : i < z.2.1 1) : gI 3 h (z.2.2.2 (bmo i)) 5 = some (z.1 2 i 4) := gI_of (R.at (e_mo hi)) rfl
theorem g_mo_6 {G : GE} {z : Zs} {h : PH} (R : Rp G z h) {i : Nat} (hi : i < z.2.1 1) : gI 3 h (z.2.2.2 (bmo i)) 6 = some (z.1 2 i 5) := gI_of (R.at (e_mo hi)) rfl
theorem e_ae {G : GE} {z : Zs} {i : Nat} (hi : i < z.2.1 2) : ct G z (bae i) = some (.inr (1, [.ref (z.2.2.2 (bmo (z.1 3 i 0).toNatClampNeg)), .int (z.1 3 i 1)])) := by simp [ct, hi]
theorem c_oae {G : GE} {z : Zs} {h : PH} (R : Rp G z h) {i : Nat} (hi : i < z.2.1 2) : isC 1 h (z.2.2.2 (bae i)) = some () := isC_of (R.at (e_ae hi))
theorem g_ae_0 {G : GE} {z : Zs} {h : PH} (R : Rp G z h) {i : Nat} (hi : i < z.2.1 2) : gR 1 h (z.2.2.2 (bae i)) 0 = some (z.2.2.2 (bmo (z.1 3 i 0).toNatClampNeg)) := gR_of (R.at (e_ae hi)) rfl
theorem g_ae_1 {G : GE} {z : Zs} {h : PH} (R : Rp G z h) {i : Nat} (hi : i < z.2.1 2) : gI 1 h (z.2.2.2 (bae i)) 1 = some (z.1 3 i 1) := gI_of (R.at (e_ae hi)) rfl
theorem e_ms {G : GE} {z : Zs} {i : Nat} (hi : i < z.2.1 3) : ct G z (bms i) = some (.inr (2, [.int (z.1 4 i 0), .int (z.1 4 i 1), .int (z.1 4 i 2), .int (z.1 4 i 3), .ref (z.2.2.2 (bho i))])) := by simp [ct, hi]
theorem c_oms {G : GE} {z : Zs} {h : PH} (R : Rp G z h) {i : Nat} (hi : i < z.2.1 3) : isC 2 h (z.2.2.2 (bms i)) = some () := isC_of (R.at (e_ms hi))
theorem g_ms_0 {G : GE} {z : Zs} {h : PH} (R : Rp G z h) {i : Nat} (hi : i < z.2.1 3) : gI 2 h (z.2.2.2 (bms i)) 0 = some (z.1 4 i 0) := gI_of (R.at (e_ms hi)) rfl
theorem g_ms_1 {G : GE} {z : Zs} {h : PH} (R : Rp G z h) {i : Nat} (hi : i < z.2.1 3) : gI 2 h (z.2.2.2 (bms i)) 1 = some (z.1 4 i 1) := gI_of (R.at (e_ms hi)) rfl
theorem g_ms_2 {G : GE} {z : Zs} {h : PH} (R : Rp G z h) {i : Nat} (hi : i < z.2.1 3) : gI 2 h (z.2.2.2 (bms i)) 2 = some (z.1 4 i 2) := gI_of (R.at (e_ms hi)) rfl
theorem g_ms_3 {G : GE} {z : Zs} {h : PH} (R : Rp G z h) {i : Nat} (hi : i < z.2.1 3) : gI 2 h (z.2.2.2 (bms i)) 3 = some (z.1 4 i 3) := gI_of (R.at (e_ms hi)) rfl
theorem g_ms_4 {G : GE} {z : Zs} {h : PH} (R : Rp G z h) {i : Nat} (hi : i < z.2.1 3) : gR 2 h (z.2.2.2 (bms i)) 4 = some (z.2.2.2 (bho i)) := gR_of (R.at (e_ms hi)) rfl
theorem e_vn {G : GE} {z : Zs} {b : Bool} {i : Nat} (hi : i < z.2.1 (nv b)) : ct G z (bvn b i) = some (.inr (5, [.ref (z.2.2.2 (bms i)), .int (z.1 (gv b) i 4), .int (z.1 (gv b) i 5), .int (z.1 (gv b) i 6), .int (z.1 (gv b) i 7), .int (z.1 (gv b) i 8), .int (z.1 (gv b) i 9)])) := by simp [ct, hi]
theorem c_ovn {G : GE} {z : Zs} {h : PH} (R : Rp G z h) {b : Bool} {i : Nat} (hi : i < z.2.1 (nv b)) : isC 5 h (z.2.2.2 (bvn b i)) = some () := isC_of (R.at (e_vn hi))
theorem g_vn_0 {G : GE} {z : Zs} {h : PH} (R : Rp G z h) {b : Bool} {i : Nat} (hi : i < z.2.1 (nv b)) : gR 5 h (z.2.2.2 (bvn b i)) 0 = some (z.2.2.2 (bms i)) := gR_of (R.at (e_vn hi)) rfl
theorem g_vn_1 {G : GE} {z : Zs} {h : PH} (R : Rp G z h) {b : Bool} {i : Nat} (hi : i < z.2.1 (nv b)) : gI 5 h (z.2.2.2 (bvn b i)) 1 = some (z.1 (gv b) i 4) := gI_of (R.at (e_vn hi)) rfl
theorem g_vn_2 {G : GE} {z : Zs} {h : PH} (R : Rp G z h) {b : Bool} {i : Nat} (hi : i < z.2.1 (nv b)) : gI 5 h (z.2.2.2 (bvn b i)) 2 = some (z.1 (gv b) i 5) := gI_of (R.at (e_vn hi)) rfl
theorem g_vn_3 {G : GE} {z : Zs} {h : PH} (R : Rp G z h) {b : Bool} {i : Nat} (hi : i < z.2.1 (nv b)) : gI 5 h (z.2.2.2 (bvn b i)) 3 = some (z.1 (gv b) i 6) := gI_of (R.at (e_vn hi)) rfl
theorem g_vn_4 {G : GE} {z : Zs} {h : PH} (R : Rp G z h) {b : Bool} {i : Nat} (hi : i < z.2.1 (nv b)) : gI 5 h (z.2.2.2 (bvn b i)) 4 = some (z.1 (gv b) i 7) := gI_of (R.at (e_vn hi)) rfl
theorem g_vn_5 {G : GE} {z : Zs} {h : PH} (R : Rp G z h) {b : Bool} {i : Nat} (hi : i < z.2.1 (nv b)) : gI 5 h (z.2.2.2 (bvn b i)) 5 = some (z.1 (gv b) i 8) := gI_of (R.at (e_vn hi)) rfl
theorem g_vn_6 {G : GE} {z : Zs} {h : PH} (R : Rp G z h) {b : Bool} {i : Nat} (hi : i < z.2.1 (nv b)) : gI 5 h (z.2.2.2 (bvn b i)) 6 = some (z.1 (gv b) i 9) := gI_of (R.at (e_vn hi)) rfl
