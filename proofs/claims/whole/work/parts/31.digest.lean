/-! ===== the digest of the reference: a loop that makes cells ===== -/
abbrev rm_X8_digest : Room := { frames := 5, cells := 10, slots := 90, locals := 113 }
noncomputable def f_X8_digest_b187_body (G : GE) (k187 : Nat → Int64 → Int32 → PH → Option (Int64 × PH)) (x0 : Nat) (x1 : Int64) (x3 : Int32) (h : PH) : Option (Int64 × PH) :=
  rd (gR 9 h x0 1) fun v11 => rd (gI 8 h v11 9) fun v12 => (if ((2 : Int32) * v12) ≤ x3 then (some (x1, h)) else (rd (gR 9 h x0 1) fun v13 => rd (gR 8 h v13 10) fun v14 => rd (aI h v14 x3) fun v15 => k187 x0 ((x1 * (31 : Int64)) + ((v15).toInt64)) (x3 + (1 : Int32)) h))
noncomputable def f_X8_digest_b187 (G : GE) (n : Nat) : Nat → Int64 → Int32 → PH → Option (Int64 × PH) := lp (fun _ _ _ _ => none) (f_X8_digest_b187_body G) n
noncomputable def f_X8_digest_b151_body (G : GE) (k137 : Nat → Int64 → Int32 → PH → Option (Int64 × PH)) (k151 : Nat → Int64 → Int32 → Int32 → PH → Option (Int64 × PH)) (x0 : Nat) (x1 : Int64) (x3 : Int32) (x4 : Int32) (h : PH) : Option (Int64 × PH) :=
  (if (9 : Int32) ≤ x4 then (k137 x0 x1 (x3 + (1 : Int32)) h) else (rd (isC 9 h x0) fun _ => bd (f_X8_motionTold G x0 x3 x4 h) fun v10 h => k151 x0 ((x1 * (31 : Int64)) + ((v10).toInt64)) x3 (x4 + (1 : Int32)) h))
noncomputable def f_X8_digest_b151 (G : GE) (k137 : Nat → Int64 → Int32 → PH → Option (Int64 × PH)) (n : Nat) : Nat → Int64 → Int32 → Int32 → PH → Option (Int64 × PH) := lp (fun _ _ _ _ _ => none) (f_X8_digest_b151_body G k137) n
noncomputable def f_X8_digest_b137_body (G : GE) (k137 : Nat → Int64 → Int32 → PH → Option (Int64 × PH)) (x0 : Nat) (x1 : Int64) (x3 : Int32) (h : PH) : Option (Int64 × PH) :=
  rd (gR 9 h x0 1) fun v8 => rd (gI 8 h v8 7) fun v9 => (if v9 ≤ x3 then (f_X8_digest_b187 G LF x0 x1 (0 : Int32) h) else (f_X8_digest_b151 G k137 LF x0 x1 x3 (0 : Int32) h))
noncomputable def f_X8_digest_b137 (G : GE) (n : Nat) : Nat → Int64 → Int32 → PH → Option (Int64 × PH) := lp (fun _ _ _ _ => none) (f_X8_digest_b137_body G) n
noncomputable def f_X8_digest_b101_body (G : GE) (k87 : Nat → Int64 → Int32 → PH → Option (Int64 × PH)) (k101 : Nat → Int64 → Int32 → Int32 → PH → Option (Int64 × PH)) (x0 : Nat) (x1 : Int64) (x3 : Int32) (x4 : Int32) (h : PH) : Option (Int64 × PH) :=
  (if (12 : Int32) ≤ x4 then (k87 x0 x1 (x3 + (1 : Int32)) h) else (rd (isC 9 h x0) fun _ => bd (f_X8_vaneTold G x0 x3 x4 h) fun v7 h => k101 x0 ((x1 * (31 : Int64)) + ((v7).toInt64)) x3 (x4 + (1 : Int32)) h))
noncomputable def f_X8_digest_b101 (G : GE) (k87 : Nat → Int64 → Int32 → PH → Option (Int64 × PH)) (n : Nat) : Nat → Int64 → Int32 → Int32 → PH → Option (Int64 × PH) := lp (fun _ _ _ _ _ => none) (f_X8_digest_b101_body G k87) n
noncomputable def f_X8_digest_b87_body (G : GE) (k87 : Nat → Int64 → Int32 → PH → Option (Int64 × PH)) (x0 : Nat) (x1 : Int64) (x3 : Int32) (h : PH) : Option (Int64 × PH) :=
  rd (gR 9 h x0 1) fun v5 => rd (gI 8 h v5 5) fun v6 => (if v6 ≤ x3 then (f_X8_digest_b137 G LF x0 x1 (0 : Int32) h) else (f_X8_digest_b101 G k87 LF x0 x1 x3 (0 : Int32) h))
noncomputable def f_X8_digest_b87 (G : GE) (n : Nat) : Nat → Int64 → Int32 → PH → Option (Int64 × PH) := lp (fun _ _ _ _ => none) (f_X8_digest_b87_body G) n
noncomputable def f_X8_digest_b52_body (G : GE) (k38 : Nat → Int64 → Int32 → PH → Option (Int64 × PH)) (k52 : Nat → Int64 → Int32 → Int32 → PH → Option (Int64 × PH)) (x0 : Nat) (x1 : Int64) (x3 : Int32) (x4 : Int32) (h : PH) : Option (Int64 × PH) :=
  (if (3 : Int32) ≤ x4 then (k38 x0 x1 (x3 + (1 : Int32)) h) else (rd (isC 9 h x0) fun _ => bd (f_X8_windTold G x0 x3 x4 h) fun v4 h => k52 x0 ((x1 * (31 : Int64)) + ((v4).toInt64)) x3 (x4 + (1 : Int32)) h))
noncomputable def f_X8_digest_b52 (G : GE) (k38 : Nat → Int64 → Int32 → PH → Option (Int64 × PH)) (n : Nat) : Nat → Int64 → Int32 → Int32 → PH → Option (Int64 × PH) := lp (fun _ _ _ _ _ => none) (f_X8_digest_b52_body G k38) n
noncomputable def f_X8_digest_b38_body (G : GE) (k38 : Nat → Int64 → Int32 → PH → Option (Int64 × PH)) (x0 : Nat) (x1 : Int64) (x3 : Int32) (h : PH) : Option (Int64 × PH) :=
  rd (gR 9 h x0 1) fun v2 => rd (gI 8 h v2 1) fun v3 => (if v3 ≤ x3 then (f_X8_digest_b87 G LF x0 x1 (0 : Int32) h) else (f_X8_digest_b52 G k38 LF x0 x1 x3 (0 : Int32) h))
noncomputable def f_X8_digest_b38 (G : GE) (n : Nat) : Nat → Int64 → Int32 → PH → Option (Int64 × PH) := lp (fun _ _ _ _ => none) (f_X8_digest_b38_body G) n
noncomputable def f_X8_digest_b11_body (G : GE) (k11 : Nat → Int64 → Int32 → PH → Option (Int64 × PH)) (x0 : Nat) (x1 : Int64) (x3 : Int32) (h : PH) : Option (Int64 × PH) :=
  (if (9 : Int32) ≤ x3 then (f_X8_digest_b38 G LF x0 x1 (0 : Int32) h) else (rd (isC 9 h x0) fun _ => bd (f_X8_counted G x0 x3 h) fun v1 h => k11 x0 ((x1 * (31 : Int64)) + ((v1).toInt64)) (x3 + (1 : Int32)) h))
noncomputable def f_X8_digest_b11 (G : GE) (n : Nat) : Nat → Int64 → Int32 → PH → Option (Int64 × PH) := lp (fun _ _ _ _ => none) (f_X8_digest_b11_body G) n
noncomputable def f_X8_digest (G : GE) (x0 : Nat) (h : PH) : Option (Int64 × PH) :=
  rd (sF 9 h x0 0 (.int (0 : Int32))) fun h => f_X8_digest_b11 G 10 x0 (503 : Int64) (0 : Int32) h
set_option maxRecDepth 100000 in
set_option maxHeartbeats 4000000 in
theorem w_X8_digest_b187 {G : GE} {p : Program} (l : Launch) {e : Env} {s : State} {m : MethodId} {args : Array Value} {below : List Frame} {meth : Method} {c : Code} {rr : Int64} {hh : PH} (X : Cx G p s m args meth c cX8_digest 5 RX8 "digest" (some .long)) : ∀ (n : Nat) (x0 : Nat) (x1 : Int64) (x3 : Int32) (h : PH) (H : Heap) (locs : List Loc) (ls : Array Slot) (hH : Hx G s h H locs) (hl : lv_has ls 5 [(0, .ref x0), (1, .long x1), (3, .int x3)]) (hf : f_X8_digest_b187 G n x0 x1 x3 h = some (rr, hh)), W p l e rm_X8_digest s m args below meth c H locs 10 90 (Fq G (some (.long rr)) hh below args s rm_X8_digest.cells rm_X8_digest.slots) (F0 m 187 ls []) := by
  have hx := X.1
  have hb := X.2.1
  intro n
  induction n with
  | zero =>
    intro x0 x1 x3 h H locs ls hH hl hf
    have hf : (none : Option (Int64 × PH)) = some (rr, hh) := hf
    cases hf
  | succ n ih =>
    intro x0 x1 x3 h H locs ls hH hl hf
    have hf : f_X8_digest_b187_body G (f_X8_digest_b187 G n) x0 x1 x3 h = some (rr, hh) := hf
    generalize f_X8_digest_b187 G n = k187 at hf ih
    have ik187 := ih
    unfold f_X8_digest_b187_body at hf
    refine lv_iload_n hx hb dX8_digest_187 rfl (lv_at hl 2 rfl) ?_
    refine lv_iconst (v := 2) hx hb dX8_digest_188 (by decide) ?_
    refine lv_aload_n hx hb dX8_digest_189 rfl (lv_at hl 0 rfl) ?_
    refine p_getR X hH fg_RX8_10 hf dX8_digest_190 (fun v11 _ hf => ?_)
    refine p_getI X hH fg_RX8_107 hf dX8_digest_193 (fun v12 _ hf => ?_)
    refine lv_imul hx hb dX8_digest_196 ?_
    refine p_icmp_ge X hf dX8_digest_197 (tgt := 223) (by decide) (fun _ hf => ?_) (fun _ hf => ?_)
    · refine lv_lload_n hx hb dX8_digest_223 rfl (lv_at hl 1 rfl) ?_
      exact p_lret X hH hf (by decide) (by decide) dX8_digest_224
    · refine lv_lload_n hx hb dX8_digest_200 rfl (lv_at hl 1 rfl) ?_
      refine lv_ldc2 hx hb X.2.2.2.1 (X.2.2.2.2.1 _ m_1114) dX8_digest_201 ?_
      refine lv_lmul hx hb dX8_digest_204 ?_
      refine lv_aload_n hx hb dX8_digest_205 rfl (lv_at hl 0 rfl) ?_
      refine p_getR X hH fg_RX8_10 hf dX8_digest_206 (fun v13 _ hf => ?_)
      refine p_getR X hH fg_RX8_110 hf dX8_digest_209 (fun v14 _ hf => ?_)
      refine lv_iload_n hx hb dX8_digest_212 rfl (lv_at hl 2 rfl) ?_
      refine p_iald X hH hf dX8_digest_213 (fun v15 _ hf => ?_)
      refine lv_i2l (v := (v15).toInt64) hx hb dX8_digest_214 rfl ?_
      refine lv_ladd hx hb dX8_digest_215 ?_
      refine lv_lstore_n (lv' := [(1, .long ((x1 * (31 : Int64)) + ((v15).toInt64))), (0, .ref x0), (3, .int x3)]) hx hb dX8_digest_216 rfl hl (by decide) rfl (fun ls hl => ?_)
      refine lv_iinc (v := (x3 + (1 : Int32))) (lv' := [(3, .int (x3 + (1 : Int32))), (1, .long ((x1 * (31 : Int64)) + ((v15).toInt64))), (0, .ref x0)]) hx hb dX8_digest_217 hl (k := 2) rfl rfl (by decide) rfl (fun ls hl => ?_)
      refine lv_goto (tgt := 187) hx hb dX8_digest_220 (by decide) ?_
      exact ik187 x0 ((x1 * (31 : Int64)) + ((v15).toInt64)) (x3 + (1 : Int32)) h H locs ls hH (lv_sub hl [2, 1, 0] rfl) hf
set_option maxRecDepth 100000 in
set_option maxHeartbeats 4000000 in
theorem w_X8_digest_b151 {G : GE} {p : Program} (l : Launch) {e : Env} {s : State} {m : MethodId} {args : Array Value} {below : List Frame} {meth : Method} {c : Code} {rr : Int64} {hh : PH} (X : Cx G p s m args meth c cX8_digest 5 RX8 "digest" (some .long)) (k137 : Nat → Int64 → Int32 → PH → Option (Int64 × PH)) (ik137 : ∀ (x0 : Nat) (x1 : Int64) (x3 : Int32) (h : PH) (H : Heap) (locs : List Loc) (ls : Array Slot), Hx G s h H locs → lv_has ls 5 [(0, .ref x0), (1, .long x1), (3, .int x3)] → k137 x0 x1 x3 h = some (rr, hh) → W p l e rm_X8_digest s m args below meth c H locs 10 90 (Fq G (some (.long rr)) hh below args s rm_X8_digest.cells rm_X8_digest.slots) (F0 m 137 ls [])) : ∀ (n : Nat) (x0 : Nat) (x1 : Int64) (x3 : Int32) (x4 : Int32) (h : PH) (H : Heap) (locs : List Loc) (ls : Array Slot) (hH : Hx G s h H locs) (hl : lv_has ls 5 [(0, .ref x0), (1, .long x1), (3, .int x3), (4, .int x4)]) (hf : f_X8_digest_b151 G k137 n x0 x1 x3 x4 h = some (rr, hh)), W p l e rm_X8_digest s m args below meth c H locs 10 90 (Fq G (some (.long rr)) hh below args s rm_X8_digest.cells rm_X8_digest.slots) (F0 m 151 ls []) := by
  have hx := X.1
  have hb := X.2.1
  intro n
  induction n with
  | zero =>
    intro x0 x1 x3 x4 h H locs ls hH hl hf
    have hf : (none : Option (Int64 × PH)) = some (rr, hh) := hf
    cases hf
  | succ n ih =>
    intro x0 x1 x3 x4 h H locs ls hH hl hf
    have hf : f_X8_digest_b151_body G k137 (f_X8_digest_b151 G k137 n) x0 x1 x3 x4 h = some (rr, hh) := hf
    generalize f_X8_digest_b151 G k137 n = k151 at hf ih
    have ik151 := ih
    unfold f_X8_digest_b151_body at hf
    refine lv_iload hx hb dX8_digest_151 (lv_at hl 3 rfl) ?_
    refine lv_bipush (v := 9) hx hb dX8_digest_153 (by decide) ?_
    refine p_icmp_ge X hf dX8_digest_155 (tgt := 179) (by decide) (fun _ hf => ?_) (fun _ hf => ?_)
    · refine lv_iinc (v := (x3 + (1 : Int32))) (lv' := [(3, .int (x3 + (1 : Int32))), (0, .ref x0), (1, .long x1), (4, .int x4)]) hx hb dX8_digest_179 hl (k := 2) rfl rfl (by decide) rfl (fun ls hl => ?_)
      refine lv_goto (tgt := 137) hx hb dX8_digest_182 (by decide) ?_
      exact ik137 x0 x1 (x3 + (1 : Int32)) h H locs ls hH (lv_sub hl [1, 2, 0] rfl) hf
    · refine lv_lload_n hx hb dX8_digest_158 rfl (lv_at hl 1 rfl) ?_
      refine lv_ldc2 hx hb X.2.2.2.1 (X.2.2.2.2.1 _ m_1114) dX8_digest_159 ?_
      refine lv_lmul hx hb dX8_digest_162 ?_
      refine lv_aload_n hx hb dX8_digest_163 rfl (lv_at hl 0 rfl) ?_
      refine lv_iload_n hx hb dX8_digest_164 rfl (lv_at hl 2 rfl) ?_
      refine lv_iload hx hb dX8_digest_165 (lv_at hl 3 rfl) ?_
      refine p_cVI (As := [.int x3, .int x4]) (b := x0) (rest := [.long (x1 * (31 : Int64))]) (ci := 9) X hH rfl hf (fun _ _ e_ => c_X8_motionTold l G x0 x3 x4 h _ _ e_) mv_X8_motionTold lk_RX8_119 (by decide) rfl hl.1 (Nat.le_of_ble_eq_true rfl) dX8_digest_167 (c2 := 10) (s2 := 90) (by decide) (fun v10 h H locs hH hf => ?_)
      refine lv_i2l (v := (v10).toInt64) hx hb dX8_digest_170 rfl ?_
      refine lv_ladd hx hb dX8_digest_171 ?_
      refine lv_lstore_n (lv' := [(1, .long ((x1 * (31 : Int64)) + ((v10).toInt64))), (0, .ref x0), (3, .int x3), (4, .int x4)]) hx hb dX8_digest_172 rfl hl (by decide) rfl (fun ls hl => ?_)
      refine lv_iinc (v := (x4 + (1 : Int32))) (lv' := [(4, .int (x4 + (1 : Int32))), (1, .long ((x1 * (31 : Int64)) + ((v10).toInt64))), (0, .ref x0), (3, .int x3)]) hx hb dX8_digest_173 hl (k := 3) rfl rfl (by decide) rfl (fun ls hl => ?_)
      refine lv_goto (tgt := 151) hx hb dX8_digest_176 (by decide) ?_
      exact ik151 x0 ((x1 * (31 : Int64)) + ((v10).toInt64)) x3 (x4 + (1 : Int32)) h H locs ls hH (lv_sub hl [2, 1, 3, 0] rfl) hf
set_option maxRecDepth 100000 in
set_option maxHeartbeats 4000000 in
theorem w_X8_digest_b137 {G : GE} {p : Program} (l : Launch) {e : Env} {s : State} {m : MethodId} {args : Array Value} {below : List Frame} {meth : Method} {c : Code} {rr : Int64} {hh : PH} (X : Cx G p s m args meth c cX8_digest 5 RX8 "digest" (some .long)) : ∀ (n : Nat) (x0 : Nat) (x1 : Int64) (x3 : Int32) (h : PH) (H : Heap) (locs : List Loc) (ls : Array Slot) (hH : Hx G s h H locs) (hl : lv_has ls 5 [(0, .ref x0), (1, .long x1), (3, .int x3)]) (hf : f_X8_digest_b137 G n x0 x1 x3 h = some (rr, hh)), W p l e rm_X8_digest s m args below meth c H locs 10 90 (Fq G (some (.long rr)) hh below args s rm_X8_digest.cells rm_X8_digest.slots) (F0 m 137 ls []) := by
  have hx := X.1
  have hb := X.2.1
  intro n
  induction n with
  | zero =>
    intro x0 x1 x3 h H locs ls hH hl hf
    have hf : (none : Option (Int64 × PH)) = some (rr, hh) := hf
    cases hf
  | succ n ih =>
    intro x0 x1 x3 h H locs ls hH hl hf
    have hf : f_X8_digest_b137_body G (f_X8_digest_b137 G n) x0 x1 x3 h = some (rr, hh) := hf
    generalize f_X8_digest_b137 G n = k137 at hf ih
    have ik137 := ih
    unfold f_X8_digest_b137_body at hf
    refine lv_iload_n hx hb dX8_digest_137 rfl (lv_at hl 2 rfl) ?_
    refine lv_aload_n hx hb dX8_digest_138 rfl (lv_at hl 0 rfl) ?_
    refine p_getR X hH fg_RX8_10 hf dX8_digest_139 (fun v8 _ hf => ?_)
    refine p_getI X hH fg_RX8_95 hf dX8_digest_142 (fun v9 _ hf => ?_)
    refine p_icmp_ge X hf dX8_digest_145 (tgt := 185) (by decide) (fun _ hf => ?_) (fun _ hf => ?_)
    · refine lv_iconst (v := 0) hx hb dX8_digest_185 (by decide) ?_
      refine lv_istore_n (lv' := [(3, .int (0 : Int32)), (0, .ref x0), (1, .long x1)]) hx hb dX8_digest_186 rfl hl (by decide) rfl (fun ls hl => ?_)
      exact w_X8_digest_b187 l X LF x0 x1 (0 : Int32) h H locs ls hH (lv_sub hl [1, 2, 0] rfl) hf
    · refine lv_iconst (v := 0) hx hb dX8_digest_148 (by decide) ?_
      refine lv_istore (lv' := [(4, .int (0 : Int32)), (0, .ref x0), (1, .long x1), (3, .int x3)]) hx hb dX8_digest_149 hl (by decide) rfl (fun ls hl => ?_)
      exact w_X8_digest_b151 l X k137 ik137 LF x0 x1 x3 (0 : Int32) h H locs ls hH (lv_sub hl [1, 2, 3, 0] rfl) hf
set_option maxRecDepth 100000 in
set_option maxHeartbeats 4000000 in
theorem w_X8_digest_b101 {G : GE} {p : Program} (l : Launch) {e : Env} {s : State} {m : MethodId} {args : Array Value} {below : List Frame} {meth : Method} {c : Code} {rr : Int64} {hh : PH} (X : Cx G p s m args meth c cX8_digest 5 RX8 "digest" (some .long)) (k87 : Nat → Int64 → Int32 → PH → Option (Int64 × PH)) (ik87 : ∀ (x0 : Nat) (x1 : Int64) (x3 : Int32) (h : PH) (H : Heap) (locs : List Loc) (ls : Array Slot), Hx G s h H locs → lv_has ls 5 [(0, .ref x0), (1, .long x1), (3, .int x3)] → k87 x0 x1 x3 h = some (rr, hh) → W p l e rm_X8_digest s m args below meth c H locs 10 90 (Fq G (some (.long rr)) hh below args s rm_X8_digest.cells rm_X8_digest.slots) (F0 m 87 ls [])) : ∀ (n : Nat) (x0 : Nat) (x1 : Int64) (x3 : Int32) (x4 : Int32) (h : PH) (H : Heap) (locs : List Loc) (ls : Array Slot) (hH : Hx G s h H locs) (hl : lv_has ls 5 [(0, .ref x0), (1, .long x1), (3, .int x3), (4, .int x4)]) (hf : f_X8_digest_b101 G k87 n x0 x1 x3 x4 h = some (rr, hh)), W p l e rm_X8_digest s m args below meth c H locs 10 90 (Fq G (some (.long rr)) hh below args s rm_X8_digest.cells rm_X8_digest.slots) (F0 m 101 ls []) := by
  have hx := X.1
  have hb := X.2.1
  intro n
  induction n with
  | zero =>
    intro x0 x1 x3 x4 h H locs ls hH hl hf
    have hf : (none : Option (Int64 × PH)) = some (rr, hh) := hf
    cases hf
  | succ n ih =>
    intro x0 x1 x3 x4 h H locs ls hH hl hf
    have hf : f_X8_digest_b101_body G k87 (f_X8_digest_b101 G k87 n) x0 x1 x3 x4 h = some (rr, hh) := hf
    generalize f_X8_digest_b101 G k87 n = k101 at hf ih
    have ik101 := ih
    unfold f_X8_digest_b101_body at hf
    refine lv_iload hx hb dX8_digest_101 (lv_at hl 3 rfl) ?_
    refine lv_bipush (v := 12) hx hb dX8_digest_103 (by decide) ?_
    refine p_icmp_ge X hf dX8_digest_105 (tgt := 129) (by decide) (fun _ hf => ?_) (fun _ hf => ?_)
    · refine lv_iinc (v := (x3 + (1 : Int32))) (lv' := [(3, .int (x3 + (1 : Int32))), (0, .ref x0), (1, .long x1), (4, .int x4)]) hx hb dX8_digest_129 hl (k := 2) rfl rfl (by decide) rfl (fun ls hl => ?_)
      refine lv_goto (tgt := 87) hx hb dX8_digest_132 (by decide) ?_
      exact ik87 x0 x1 (x3 + (1 : Int32)) h H locs ls hH (lv_sub hl [1, 2, 0] rfl) hf
    · refine lv_lload_n hx hb dX8_digest_108 rfl (lv_at hl 1 rfl) ?_
      refine lv_ldc2 hx hb X.2.2.2.1 (X.2.2.2.2.1 _ m_1114) dX8_digest_109 ?_
      refine lv_lmul hx hb dX8_digest_112 ?_
      refine lv_aload_n hx hb dX8_digest_113 rfl (lv_at hl 0 rfl) ?_
      refine lv_iload_n hx hb dX8_digest_114 rfl (lv_at hl 2 rfl) ?_
      refine lv_iload hx hb dX8_digest_115 (lv_at hl 3 rfl) ?_
      refine p_cVI (As := [.int x3, .int x4]) (b := x0) (rest := [.long (x1 * (31 : Int64))]) (ci := 9) X hH rfl hf (fun _ _ e_ => c_X8_vaneTold l G x0 x3 x4 h _ _ e_) mv_X8_vaneTold lk_RX8_89 (by decide) rfl hl.1 (Nat.le_of_ble_eq_true rfl) dX8_digest_117 (c2 := 10) (s2 := 90) (by decide) (fun v7 h H locs hH hf => ?_)
      refine lv_i2l (v := (v7).toInt64) hx hb dX8_digest_120 rfl ?_
      refine lv_ladd hx hb dX8_digest_121 ?_
      refine lv_lstore_n (lv' := [(1, .long ((x1 * (31 : Int64)) + ((v7).toInt64))), (0, .ref x0), (3, .int x3), (4, .int x4)]) hx hb dX8_digest_122 rfl hl (by decide) rfl (fun ls hl => ?_)
      refine lv_iinc (v := (x4 + (1 : Int32))) (lv' := [(4, .int (x4 + (1 : Int32))), (1, .long ((x1 * (31 : Int64)) + ((v7).toInt64))), (0, .ref x0), (3, .int x3)]) hx hb dX8_digest_123 hl (k := 3) rfl rfl (by decide) rfl (fun ls hl => ?_)
      refine lv_goto (tgt := 101) hx hb dX8_digest_126 (by decide) ?_
      exact ik101 x0 ((x1 * (31 : Int64)) + ((v7).toInt64)) x3 (x4 + (1 : Int32)) h H locs ls hH (lv_sub hl [2, 1, 3, 0] rfl) hf
set_option maxRecDepth 100000 in
set_option maxHeartbeats 4000000 in
theorem w_X8_digest_b87 {G : GE} {p : Program} (l : Launch) {e : Env} {s : State} {m : MethodId} {args : Array Value} {below : List Frame} {meth : Method} {c : Code} {rr : Int64} {hh : PH} (X : Cx G p s m args meth c cX8_digest 5 RX8 "digest" (some .long)) : ∀ (n : Nat) (x0 : Nat) (x1 : Int64) (x3 : Int32) (h : PH) (H : Heap) (locs : List Loc) (ls : Array Slot) (hH : Hx G s h H locs) (hl : lv_has ls 5 [(0, .ref x0), (1, .long x1), (3, .int x3)]) (hf : f_X8_digest_b87 G n x0 x1 x3 h = some (rr, hh)), W p l e rm_X8_digest s m args below meth c H locs 10 90 (Fq G (some (.long rr)) hh below args s rm_X8_digest.cells rm_X8_digest.slots) (F0 m 87 ls []) := by
  have hx := X.1
  have hb := X.2.1
  intro n
  induction n with
  | zero =>
    intro x0 x1 x3 h H locs ls hH hl hf
    have hf : (none : Option (Int64 × PH)) = some (rr, hh) := hf
    cases hf
  | succ n ih =>
    intro x0 x1 x3 h H locs ls hH hl hf
    have hf : f_X8_digest_b87_body G (f_X8_digest_b87 G n) x0 x1 x3 h = some (rr, hh) := hf
    generalize f_X8_digest_b87 G n = k87 at hf ih
    have ik87 := ih
    unfold f_X8_digest_b87_body at hf
    refine lv_iload_n hx hb dX8_digest_87 rfl (lv_at hl 2 rfl) ?_
    refine lv_aload_n hx hb dX8_digest_88 rfl (lv_at hl 0 rfl) ?_
    refine p_getR X hH fg_RX8_10 hf dX8_digest_89 (fun v5 _ hf => ?_)
    refine p_getI X hH fg_RX8_53 hf dX8_digest_92 (fun v6 _ hf => ?_)
    refine p_icmp_ge X hf dX8_digest_95 (tgt := 135) (by decide) (fun _ hf => ?_) (fun _ hf => ?_)
    · refine lv_iconst (v := 0) hx hb dX8_digest_135 (by decide) ?_
      refine lv_istore_n (lv' := [(3, .int (0 : Int32)), (0, .ref x0), (1, .long x1)]) hx hb dX8_digest_136 rfl hl (by decide) rfl (fun ls hl => ?_)
      exact w_X8_digest_b137 l X LF x0 x1 (0 : Int32) h H locs ls hH (lv_sub hl [1, 2, 0] rfl) hf
    · refine lv_iconst (v := 0) hx hb dX8_digest_98 (by decide) ?_
      refine lv_istore (lv' := [(4, .int (0 : Int32)), (0, .ref x0), (1, .long x1), (3, .int x3)]) hx hb dX8_digest_99 hl (by decide) rfl (fun ls hl => ?_)
      exact w_X8_digest_b101 l X k87 ik87 LF x0 x1 x3 (0 : Int32) h H locs ls hH (lv_sub hl [1, 2, 3, 0] rfl) hf
set_option maxRecDepth 100000 in
set_option maxHeartbeats 4000000 in
theorem w_X8_digest_b52 {G : GE} {p : Program} (l : Launch) {e : Env} {s : State} {m : MethodId} {args : Array Value} {below : List Frame} {meth : Method} {c : Code} {rr : Int64} {hh : PH} (X : Cx G p s m args meth c cX8_digest 5 RX8 "digest" (some .long)) (k38 : Nat → Int64 → Int32 → PH → Option (Int64 × PH)) (ik38 : ∀ (x0 : Nat) (x1 : Int64) (x3 : Int32) (h : PH) (H : Heap) (locs : List Loc) (ls : Array Slot), Hx G s h H locs → lv_has ls 5 [(0, .ref x0), (1, .long x1), (3, .int x3)] → k38 x0 x1 x3 h = some (rr, hh) → W p l e rm_X8_digest s m args below meth c H locs 10 90 (Fq G (some (.long rr)) hh below args s rm_X8_digest.cells rm_X8_digest.slots) (F0 m 38 ls [])) : ∀ (n : Nat) (x0 : Nat) (x1 : Int64) (x3 : Int32) (x4 : Int32) (h : PH) (H : Heap) (locs : List Loc) (ls : Array Slot) (hH : Hx G s h H locs) (hl : lv_has ls 5 [(0, .ref x0), (1, .long x1), (3, .int x3), (4, .int x4)]) (hf : f_X8_digest_b52 G k38 n x0 x1 x3 x4 h = some (rr, hh)), W p l e rm_X8_digest s m args below meth c H locs 10 90 (Fq G (some (.long rr)) hh below args s rm_X8_digest.cells rm_X8_digest.slots) (F0 m 52 ls []) := by
  have hx := X.1
  have hb := X.2.1
  intro n
  induction n with
  | zero =>
    intro x0 x1 x3 x4 h H locs ls hH hl hf
    have hf : (none : Option (Int64 × PH)) = some (rr, hh) := hf
    cases hf
  | succ n ih =>
    intro x0 x1 x3 x4 h H locs ls hH hl hf
    have hf : f_X8_digest_b52_body G k38 (f_X8_digest_b52 G k38 n) x0 x1 x3 x4 h = some (rr, hh) := hf
    generalize f_X8_digest_b52 G k38 n = k52 at hf ih
    have ik52 := ih
    unfold f_X8_digest_b52_body at hf
    refine lv_iload hx hb dX8_digest_52 (lv_at hl 3 rfl) ?_
    refine lv_iconst (v := 3) hx hb dX8_digest_54 (by decide) ?_
    refine p_icmp_ge X hf dX8_digest_55 (tgt := 79) (by decide) (fun _ hf => ?_) (fun _ hf => ?_)
    · refine lv_iinc (v := (x3 + (1 : Int32))) (lv' := [(3, .int (x3 + (1 : Int32))), (0, .ref x0), (1, .long x1), (4, .int x4)]) hx hb dX8_digest_79 hl (k := 2) rfl rfl (by decide) rfl (fun ls hl => ?_)
      refine lv_goto (tgt := 38) hx hb dX8_digest_82 (by decide) ?_
      exact ik38 x0 x1 (x3 + (1 : Int32)) h H locs ls hH (lv_sub hl [1, 2, 0] rfl) hf
    · refine lv_lload_n hx hb dX8_digest_58 rfl (lv_at hl 1 rfl) ?_
      refine lv_ldc2 hx hb X.2.2.2.1 (X.2.2.2.2.1 _ m_1114) dX8_digest_59 ?_
      refine lv_lmul hx hb dX8_digest_62 ?_
      refine lv_aload_n hx hb dX8_digest_63 rfl (lv_at hl 0 rfl) ?_
      refine lv_iload_n hx hb dX8_digest_64 rfl (lv_at hl 2 rfl) ?_
      refine lv_iload hx hb dX8_digest_65 (lv_at hl 3 rfl) ?_
      refine p_cVI (As := [.int x3, .int x4]) (b := x0) (rest := [.long (x1 * (31 : Int64))]) (ci := 9) X hH rfl hf (fun _ _ e_ => c_X8_windTold l G x0 x3 x4 h _ _ e_) mv_X8_windTold lk_RX8_49 (by decide) rfl hl.1 (Nat.le_of_ble_eq_true rfl) dX8_digest_67 (c2 := 10) (s2 := 90) (by decide) (fun v4 h H locs hH hf => ?_)
      refine lv_i2l (v := (v4).toInt64) hx hb dX8_digest_70 rfl ?_
      refine lv_ladd hx hb dX8_digest_71 ?_
      refine lv_lstore_n (lv' := [(1, .long ((x1 * (31 : Int64)) + ((v4).toInt64))), (0, .ref x0), (3, .int x3), (4, .int x4)]) hx hb dX8_digest_72 rfl hl (by decide) rfl (fun ls hl => ?_)
      refine lv_iinc (v := (x4 + (1 : Int32))) (lv' := [(4, .int (x4 + (1 : Int32))), (1, .long ((x1 * (31 : Int64)) + ((v4).toInt64))), (0, .ref x0), (3, .int x3)]) hx hb dX8_digest_73 hl (k := 3) rfl rfl (by decide) rfl (fun ls hl => ?_)
      refine lv_goto (tgt := 52) hx hb dX8_digest_76 (by decide) ?_
      exact ik52 x0 ((x1 * (31 : Int64)) + ((v4).toInt64)) x3 (x4 + (1 : Int32)) h H locs ls hH (lv_sub hl [2, 1, 3, 0] rfl) hf
set_option maxRecDepth 100000 in
set_option maxHeartbeats 4000000 in
theorem w_X8_digest_b38 {G : GE} {p : Program} (l : Launch) {e : Env} {s : State} {m : MethodId} {args : Array Value} {below : List Frame} {meth : Method} {c : Code} {rr : Int64} {hh : PH} (X : Cx G p s m args meth c cX8_digest 5 RX8 "digest" (some .long)) : ∀ (n : Nat) (x0 : Nat) (x1 : Int64) (x3 : Int32) (h : PH) (H : Heap) (locs : List Loc) (ls : Array Slot) (hH : Hx G s h H locs) (hl : lv_has ls 5 [(0, .ref x0), (1, .long x1), (3, .int x3)]) (hf : f_X8_digest_b38 G n x0 x1 x3 h = some (rr, hh)), W p l e rm_X8_digest s m args below meth c H locs 10 90 (Fq G (some (.long rr)) hh below args s rm_X8_digest.cells rm_X8_digest.slots) (F0 m 38 ls []) := by
  have hx := X.1
  have hb := X.2.1
  intro n
  induction n with
  | zero =>
    intro x0 x1 x3 h H locs ls hH hl hf
    have hf : (none : Option (Int64 × PH)) = some (rr, hh) := hf
    cases hf
  | succ n ih =>
    intro x0 x1 x3 h H locs ls hH hl hf
    have hf : f_X8_digest_b38_body G (f_X8_digest_b38 G n) x0 x1 x3 h = some (rr, hh) := hf
    generalize f_X8_digest_b38 G n = k38 at hf ih
    have ik38 := ih
    unfold f_X8_digest_b38_body at hf
    refine lv_iload_n hx hb dX8_digest_38 rfl (lv_at hl 2 rfl) ?_
    refine lv_aload_n hx hb dX8_digest_39 rfl (lv_at hl 0 rfl) ?_
    refine p_getR X hH fg_RX8_10 hf dX8_digest_40 (fun v2 _ hf => ?_)
    refine p_getI X hH fg_RX8_42 hf dX8_digest_43 (fun v3 _ hf => ?_)
    refine p_icmp_ge X hf dX8_digest_46 (tgt := 85) (by decide) (fun _ hf => ?_) (fun _ hf => ?_)
    · refine lv_iconst (v := 0) hx hb dX8_digest_85 (by decide) ?_
      refine lv_istore_n (lv' := [(3, .int (0 : Int32)), (0, .ref x0), (1, .long x1)]) hx hb dX8_digest_86 rfl hl (by decide) rfl (fun ls hl => ?_)
      exact w_X8_digest_b87 l X LF x0 x1 (0 : Int32) h H locs ls hH (lv_sub hl [1, 2, 0] rfl) hf
    · refine lv_iconst (v := 0) hx hb dX8_digest_49 (by decide) ?_
      refine lv_istore (lv' := [(4, .int (0 : Int32)), (0, .ref x0), (1, .long x1), (3, .int x3)]) hx hb dX8_digest_50 hl (by decide) rfl (fun ls hl => ?_)
      exact w_X8_digest_b52 l X k38 ik38 LF x0 x1 x3 (0 : Int32) h H locs ls hH (lv_sub hl [1, 2, 3, 0] rfl) hf
set_option maxRecDepth 100000 in
set_option maxHeartbeats 4000000 in
theorem w_X8_digest_b11 {G : GE} {p : Program} (l : Launch) {e : Env} {s : State} {m : MethodId} {args : Array Value} {below : List Frame} {meth : Method} {c : Code} {rr : Int64} {hh : PH} (X : Cx G p s m args meth c cX8_digest 5 RX8 "digest" (some .long)) : ∀ (n : Nat), n ≤ 10 → ∀ (x0 : Nat) (x1 : Int64) (x3 : Int32) (h : PH) (H : Heap) (locs : List Loc) (ls : Array Slot) (hH : Hx G s h H locs) (hl : lv_has ls 5 [(0, .ref x0), (1, .long x1), (3, .int x3)]) (hf : f_X8_digest_b11 G n x0 x1 x3 h = some (rr, hh)), W p l e rm_X8_digest s m args below meth c H locs (10 - n) ((10 - n) * 9) (Fq G (some (.long rr)) hh below args s rm_X8_digest.cells rm_X8_digest.slots) (F0 m 11 ls []) := by
  have hx := X.1
  have hb := X.2.1
  intro n
  induction n with
  | zero =>
    intro hn x0 x1 x3 h H locs ls hH hl hf
    have hf : (none : Option (Int64 × PH)) = some (rr, hh) := hf
    cases hf
  | succ n ih =>
    intro hn x0 x1 x3 h H locs ls hH hl hf
    have hf : f_X8_digest_b11_body G (f_X8_digest_b11 G n) x0 x1 x3 h = some (rr, hh) := hf
    generalize f_X8_digest_b11 G n = k11 at hf ih
    have ik11 := ih
    unfold f_X8_digest_b11_body at hf
    refine lv_iload_n hx hb dX8_digest_11 rfl (lv_at hl 2 rfl) ?_
    refine lv_bipush (v := 9) hx hb dX8_digest_12 (by decide) ?_
    refine p_icmp_ge X hf dX8_digest_14 (tgt := 36) (by decide) (fun _ hf => ?_) (fun _ hf => ?_)
    · refine lv_iconst (v := 0) hx hb dX8_digest_36 (by decide) ?_
      refine lv_istore_n (lv' := [(3, .int (0 : Int32)), (0, .ref x0), (1, .long x1)]) hx hb dX8_digest_37 rfl hl (by decide) rfl (fun ls hl => ?_)
      refine W.widen (k := 10) (n := 90) (by omega) (by omega) ?_
      exact w_X8_digest_b38 l X LF x0 x1 (0 : Int32) h H locs ls hH (lv_sub hl [1, 2, 0] rfl) hf
    · refine lv_lload_n hx hb dX8_digest_17 rfl (lv_at hl 1 rfl) ?_
      refine lv_ldc2 hx hb X.2.2.2.1 (X.2.2.2.2.1 _ m_1114) dX8_digest_18 ?_
      refine lv_lmul hx hb dX8_digest_21 ?_
      refine lv_aload_n hx hb dX8_digest_22 rfl (lv_at hl 0 rfl) ?_
      refine lv_iload_n hx hb dX8_digest_23 rfl (lv_at hl 2 rfl) ?_
      refine p_cVI (As := [.int x3]) (b := x0) (rest := [.long (x1 * (31 : Int64))]) (ci := 9) X hH rfl hf (fun _ _ e_ => c_X8_counted l G x0 x3 h _ _ e_) mv_X8_counted lk_RX8_132 (by decide) rfl hl.1 (Nat.le_of_ble_eq_true rfl) dX8_digest_24 (c2 := 10 - n) (s2 := (10 - n) * 9) ⟨by show 10 - (n + 1) + 1 ≤ 10 - n; omega, by show 10 - n ≤ 10; omega, by show (10 - (n + 1)) * 9 + 9 ≤ (10 - n) * 9; omega, by show (10 - n) * 9 ≤ 90; omega⟩ (fun v1 h H locs hH hf => ?_)
      refine lv_i2l (v := (v1).toInt64) hx hb dX8_digest_27 rfl ?_
      refine lv_ladd hx hb dX8_digest_28 ?_
      refine lv_lstore_n (lv' := [(1, .long ((x1 * (31 : Int64)) + ((v1).toInt64))), (0, .ref x0), (3, .int x3)]) hx hb dX8_digest_29 rfl hl (by decide) rfl (fun ls hl => ?_)
      refine lv_iinc (v := (x3 + (1 : Int32))) (lv' := [(3, .int (x3 + (1 : Int32))), (1, .long ((x1 * (31 : Int64)) + ((v1).toInt64))), (0, .ref x0)]) hx hb dX8_digest_30 hl (k := 2) rfl rfl (by decide) rfl (fun ls hl => ?_)
      refine lv_goto (tgt := 11) hx hb dX8_digest_33 (by decide) ?_
      exact ik11 (by omega) x0 ((x1 * (31 : Int64)) + ((v1).toInt64)) (x3 + (1 : Int32)) h H locs ls hH (lv_sub hl [2, 1, 0] rfl) hf
set_option maxRecDepth 100000 in
set_option maxHeartbeats 4000000 in
theorem c_X8_digest (l : Launch) (G : GE) (x0 : Nat) (h : PH) (rr : Int64) (hh : PH) (hf : f_X8_digest G x0 h = some (rr, hh)) : Ct l yX8_digest cX8_digest 5 (some .long) rm_X8_digest G [.ref x0] h (some (.long rr)) hh := by
  refine Ct.of (plainFor_of_name (by decide)) (Nat.le_of_ble_eq_true rfl) ?_
  intro p e s m args below meth c ls X hH hl
  have hl : lv_has ls 5 [(0, .ref x0)] := hl
  have X : Cx G p s m args meth c cX8_digest 5 RX8 "digest" (some .long) := X
  have hx := X.1
  have hb := X.2.1
  unfold f_X8_digest at hf
  obtain ⟨H, hHe⟩ : ∃ z, z = s.heap := ⟨_, rfl⟩
  obtain ⟨locs, hLe⟩ : ∃ z, z = ([] : List Loc) := ⟨_, rfl⟩
  rw [← hHe, ← hLe] at hH
  rw [← hHe, ← hLe]
  refine lv_aload_n hx hb dX8_digest_0 rfl (lv_at hl 0 rfl) ?_
  refine lv_iconst (v := 0) hx hb dX8_digest_1 (by decide) ?_
  refine p_put X hH fp_RX8_19 rfl rfl hf dX8_digest_2 (fun h H locs hH hf => ?_)
  refine lv_ldc2 hx hb X.2.2.2.1 (X.2.2.2.2.1 _ m_1113) dX8_digest_5 ?_
  refine lv_lstore_n (lv' := [(1, .long (503 : Int64)), (0, .ref x0)]) hx hb dX8_digest_8 rfl hl (by decide) rfl (fun ls hl => ?_)
  refine lv_iconst (v := 0) hx hb dX8_digest_9 (by decide) ?_
  refine lv_istore_n (lv' := [(3, .int (0 : Int32)), (1, .long (503 : Int64)), (0, .ref x0)]) hx hb dX8_digest_10 rfl hl (by decide) rfl (fun ls hl => ?_)
  exact w_X8_digest_b11 l X 10 (Nat.le_refl 10) x0 (503 : Int64) (0 : Int32) h H locs ls hH (lv_sub hl [2, 1, 0] rfl) hf
