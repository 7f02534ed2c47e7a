/-! THE INSTRUCTIONS: what each does here, and that the machine does the same -/
theorem mx_W.of {own ynm : String} {cc : ByteArray} {nL : Nat} {ret : Option FieldType} {fr lc pc : Nat} {f : mx_F} (hm : ∀ lv st h q, f lv st h = some q → q.2.2.2 = h)
    (k : ∀ (p : Program) (l : Launch) (e : Env) (R : Room) (s : State) (m : MethodId) (args : Array Value) (below : List Frame) (meth : Method) (c : Code) (D : va_G) (cI cZ : ClassId) (A : Nat → Prop) (g : mx_G) (Q : State → Prop), fr ≤ R.frames → lc ≤ R.locals → mx_X own ynm cc nL ret p R s m args meth c D cI cZ A g →
      ∀ (lv : mx_L) (st : List Value) (h : mx_H) (q : mx_S), f lv st h = some q → ∀ (H : Heap) (locs : List Loc) (ls : Array Slot) (cells slots : Nat), mx_R D cI cZ A g h H → va_S A s.heap H locs → lv_has ls nL lv →
      (∀ (ls' : Array Slot), lv_has ls' nL q.2.1 → W p l e R s m args below meth c H locs cells slots Q (F0 m q.1 ls' q.2.2.1)) → W p l e R s m args below meth c H locs cells slots Q (F0 m pc ls st)) : mx_W own ynm cc nL ret fr lc pc f := by
  refine ⟨fun lv st h q hq => ?_, ?_⟩
  · rw [hm lv st h q hq]
    exact ⟨Nat.le_refl _, Nat.le_refl _, rfl⟩
  · intro p l e R s m args below meth c D cI cZ A g Q hfr hlc X lv st h q hq H locs ls cells slots hR hS hl _ _ kk
    have e1 := hm lv st h q hq
    refine k p l e R s m args below meth c D cI cZ A g Q hfr hlc X lv st h q hq H locs ls cells slots hR hS hl (fun ls' hl' => ?_)
    have h1 := kk H locs ls' (by rw [e1]; exact hR) hS hl'
    rw [e1, Nat.sub_self, Nat.sub_self, Nat.add_zero, Nat.add_zero] at h1
    exact h1
section SX
variable {own ynm : String} {cc : ByteArray} {nL : Nat} {ret : Option FieldType} {fr lc pc : Nat}
def sx_const (v : Value) (n : Nat) : mx_F := fun lv st h => some (n, lv, v :: st, h)
theorem sn_iconst {k : Int} {v : Int32} (hd : decode cc pc = .ok (.iconst k, 1)) (hv : Int32.ofInt k = v) : mx_W own ynm cc nL ret fr lc pc (sx_const (.int v) (pc + 1)) := by
  refine mx_W.of (fun lv st h q hq => by cases hq; rfl) ?_
  intro p l e R s m args below meth c D cI cZ A g Q hfr hlc X lv st h q hq H locs ls cells slots hR hS hl kk
  cases hq
  exact lv_iconst X.1 X.2.1 hd hv (kk ls hl)
theorem sn_bipush {k : Int} {v : Int32} (hd : decode cc pc = .ok (.bipush k, 2)) (hv : (Int8.ofInt k).toInt32 = v) : mx_W own ynm cc nL ret fr lc pc (sx_const (.int v) (pc + 2)) := by
  refine mx_W.of (fun lv st h q hq => by cases hq; rfl) ?_
  intro p l e R s m args below meth c D cI cZ A g Q hfr hlc X lv st h q hq H locs ls cells slots hR hS hl kk
  cases hq
  exact lv_bipush X.1 X.2.1 hd hv (kk ls hl)
theorem sn_sipush {k : Int} {v : Int32} (hd : decode cc pc = .ok (.sipush k, 3)) (hv : (Int16.ofInt k).toInt32 = v) : mx_W own ynm cc nL ret fr lc pc (sx_const (.int v) (pc + 3)) := by
  refine mx_W.of (fun lv st h q hq => by cases hq; rfl) ?_
  intro p l e R s m args below meth c D cI cZ A g Q hfr hlc X lv st h q hq H locs ls cells slots hR hS hl kk
  cases hq
  exact lv_sipush X.1 X.2.1 hd hv (kk ls hl)
theorem sn_ldc {k : Nat} {v : Int32} (hd : decode cc pc = .ok (.ldc k, 2)) (hv : Jvm.Cond.constant own k v ∈ mx_tb) : mx_W own ynm cc nL ret fr lc pc (sx_const (.int v) (pc + 2)) := by
  refine mx_W.of (fun lv st h q hq => by cases hq; rfl) ?_
  intro p l e R s m args below meth c D cI cZ A g Q hfr hlc X lv st h q hq H locs ls cells slots hR hS hl kk
  cases hq
  exact lv_ldc X.1 X.2.1 X.2.2.2.2.1 (X.2.2.2.2.2.1 _ hv) hd (kk ls hl)
theorem sn_lconst {k : Fin 2} {v : Int64} (hd : decode cc pc = .ok (.lconst k, 1)) (hv : Int64.ofNat (k : Nat) = v) : mx_W own ynm cc nL ret fr lc pc (sx_const (.long v) (pc + 1)) := by
  refine mx_W.of (fun lv st h q hq => by cases hq; rfl) ?_
  intro p l e R s m args below meth c D cI cZ A g Q hfr hlc X lv st h q hq H locs ls cells slots hR hS hl kk
  cases hq
  exact lv_lconst X.1 X.2.1 hd hv (kk ls hl)
theorem sn_ldc2 {k : Nat} {v : Int64} (hd : decode cc pc = .ok (.ldc2_w k, 3)) (hv : Jvm.Cond.constantLong own k v ∈ mx_tb) : mx_W own ynm cc nL ret fr lc pc (sx_const (.long v) (pc + 3)) := by
  refine mx_W.of (fun lv st h q hq => by cases hq; rfl) ?_
  intro p l e R s m args below meth c D cI cZ A g Q hfr hlc X lv st h q hq H locs ls cells slots hR hS hl kk
  cases hq
  exact lv_ldc2 X.1 X.2.1 X.2.2.2.2.1 (X.2.2.2.2.2.1 _ hv) hd (kk ls hl)
def sx_iload (i n : Nat) : mx_F := fun lv st h => match mx_lget lv i with
  | some (.int x) => some (n, lv, .int x :: st, h)
  | _ => none
theorem sn_iload_n {k : Fin 4} (hd : decode cc pc = .ok (.iload_n k, 1)) : mx_W own ynm cc nL ret fr lc pc (sx_iload k (pc + 1)) := by
  refine mx_W.of (fun lv st h q hq => by unfold sx_iload at hq; split at hq <;> cases hq; rfl) ?_
  intro p l e R s m args below meth c D cI cZ A g Q hfr hlc X lv st h q hq H locs ls cells slots hR hS hl kk
  unfold sx_iload at hq
  split at hq
  · rename_i x hx
    cases hq
    exact lv_iload_n X.1 X.2.1 hd rfl (mx_lget_at hl hx) (kk ls hl)
  · cases hq
theorem sn_iload {k : Nat} (hd : decode cc pc = .ok (.iload k, 2)) : mx_W own ynm cc nL ret fr lc pc (sx_iload k (pc + 2)) := by
  refine mx_W.of (fun lv st h q hq => by unfold sx_iload at hq; split at hq <;> cases hq; rfl) ?_
  intro p l e R s m args below meth c D cI cZ A g Q hfr hlc X lv st h q hq H locs ls cells slots hR hS hl kk
  unfold sx_iload at hq
  split at hq
  · rename_i x hx
    cases hq
    exact lv_iload X.1 X.2.1 hd (mx_lget_at hl hx) (kk ls hl)
  · cases hq
def sx_aload (i n : Nat) : mx_F := fun lv st h => match mx_lget lv i with
  | some (.ref x) => some (n, lv, .ref x :: st, h)
  | _ => none
theorem sn_aload_n {k : Fin 4} (hd : decode cc pc = .ok (.aload_n k, 1)) : mx_W own ynm cc nL ret fr lc pc (sx_aload k (pc + 1)) := by
  refine mx_W.of (fun lv st h q hq => by unfold sx_aload at hq; split at hq <;> cases hq; rfl) ?_
  intro p l e R s m args below meth c D cI cZ A g Q hfr hlc X lv st h q hq H locs ls cells slots hR hS hl kk
  unfold sx_aload at hq
  split at hq
  · rename_i x hx
    cases hq
    exact lv_aload_n X.1 X.2.1 hd rfl (mx_lget_at hl hx) (kk ls hl)
  · cases hq
theorem sn_aload {k : Nat} (hd : decode cc pc = .ok (.aload k, 2)) : mx_W own ynm cc nL ret fr lc pc (sx_aload k (pc + 2)) := by
  refine mx_W.of (fun lv st h q hq => by unfold sx_aload at hq; split at hq <;> cases hq; rfl) ?_
  intro p l e R s m args below meth c D cI cZ A g Q hfr hlc X lv st h q hq H locs ls cells slots hR hS hl kk
  unfold sx_aload at hq
  split at hq
  · rename_i x hx
    cases hq
    exact lv_aload X.1 X.2.1 hd (mx_lget_at hl hx) (kk ls hl)
  · cases hq
def sx_lload (i n : Nat) : mx_F := fun lv st h => match mx_lget lv i with
  | some (.long x) => some (n, lv, .long x :: st, h)
  | _ => none
theorem sn_lload_n {k : Fin 4} (hd : decode cc pc = .ok (.lload_n k, 1)) : mx_W own ynm cc nL ret fr lc pc (sx_lload k (pc + 1)) := by
  refine mx_W.of (fun lv st h q hq => by unfold sx_lload at hq; split at hq <;> cases hq; rfl) ?_
  intro p l e R s m args below meth c D cI cZ A g Q hfr hlc X lv st h q hq H locs ls cells slots hR hS hl kk
  unfold sx_lload at hq
  split at hq
  · rename_i x hx
    cases hq
    exact lv_lload_n X.1 X.2.1 hd rfl (mx_lget_at hl hx) (kk ls hl)
  · cases hq
theorem sn_lload {k : Nat} (hd : decode cc pc = .ok (.lload k, 2)) : mx_W own ynm cc nL ret fr lc pc (sx_lload k (pc + 2)) := by
  refine mx_W.of (fun lv st h q hq => by unfold sx_lload at hq; split at hq <;> cases hq; rfl) ?_
  intro p l e R s m args below meth c D cI cZ A g Q hfr hlc X lv st h q hq H locs ls cells slots hR hS hl kk
  unfold sx_lload at hq
  split at hq
  · rename_i x hx
    cases hq
    exact lv_lload X.1 X.2.1 hd (mx_lget_at hl hx) (kk ls hl)
  · cases hq
def sx_istore (i n : Nat) : mx_F := fun lv st h => match st with
  | .int x :: r => some (n, mx_lset lv i (.int x), r, h)
  | _ => none
theorem sn_istore_n {k : Fin 4} (hd : decode cc pc = .ok (.istore_n k, 1)) (hn : (k : Nat) < nL) : mx_W own ynm cc nL ret fr lc pc (sx_istore k (pc + 1)) := by
  refine mx_W.of (fun lv st h q hq => by unfold sx_istore at hq; split at hq <;> cases hq; rfl) ?_
  intro p l e R s m args below meth c D cI cZ A g Q hfr hlc X lv st h q hq H locs ls cells slots hR hS hl kk
  unfold sx_istore at hq
  split at hq
  · cases hq
    exact lv_istore_n X.1 X.2.1 hd rfl hl hn rfl (fun ls2 hl2 => kk ls2 (mx_lset_has hl2))
  · cases hq
theorem sn_istore {k : Nat} (hd : decode cc pc = .ok (.istore k, 2)) (hn : k < nL) : mx_W own ynm cc nL ret fr lc pc (sx_istore k (pc + 2)) := by
  refine mx_W.of (fun lv st h q hq => by unfold sx_istore at hq; split at hq <;> cases hq; rfl) ?_
  intro p l e R s m args below meth c D cI cZ A g Q hfr hlc X lv st h q hq H locs ls cells slots hR hS hl kk
  unfold sx_istore at hq
  split at hq
  · cases hq
    exact lv_istore X.1 X.2.1 hd hl hn rfl (fun ls2 hl2 => kk ls2 (mx_lset_has hl2))
  · cases hq
def sx_astore (i n : Nat) : mx_F := fun lv st h => match st with
  | .ref x :: r => some (n, mx_lset lv i (.ref x), r, h)
  | _ => none
theorem sn_astore_n {k : Fin 4} (hd : decode cc pc = .ok (.astore_n k, 1)) (hn : (k : Nat) < nL) : mx_W own ynm cc nL ret fr lc pc (sx_astore k (pc + 1)) := by
  refine mx_W.of (fun lv st h q hq => by unfold sx_astore at hq; split at hq <;> cases hq; rfl) ?_
  intro p l e R s m args below meth c D cI cZ A g Q hfr hlc X lv st h q hq H locs ls cells slots hR hS hl kk
  unfold sx_astore at hq
  split at hq
  · cases hq
    exact lv_astore_n X.1 X.2.1 hd rfl hl hn rfl (fun ls2 hl2 => kk ls2 (mx_lset_has hl2))
  · cases hq
theorem sn_astore {k : Nat} (hd : decode cc pc = .ok (.astore k, 2)) (hn : k < nL) : mx_W own ynm cc nL ret fr lc pc (sx_astore k (pc + 2)) := by
  refine mx_W.of (fun lv st h q hq => by unfold sx_astore at hq; split at hq <;> cases hq; rfl) ?_
  intro p l e R s m args below meth c D cI cZ A g Q hfr hlc X lv st h q hq H locs ls cells slots hR hS hl kk
  unfold sx_astore at hq
  split at hq
  · cases hq
    exact lv_astore X.1 X.2.1 hd hl hn rfl (fun ls2 hl2 => kk ls2 (mx_lset_has hl2))
  · cases hq
def sx_lstore (i n : Nat) : mx_F := fun lv st h => match st with
  | .long x :: r => some (n, mx_lset2 lv i (.long x), r, h)
  | _ => none
theorem sn_lstore_n {k : Fin 4} (hd : decode cc pc = .ok (.lstore_n k, 1)) (hn : (k : Nat) + 1 < nL) : mx_W own ynm cc nL ret fr lc pc (sx_lstore k (pc + 1)) := by
  refine mx_W.of (fun lv st h q hq => by unfold sx_lstore at hq; split at hq <;> cases hq; rfl) ?_
  intro p l e R s m args below meth c D cI cZ A g Q hfr hlc X lv st h q hq H locs ls cells slots hR hS hl kk
  unfold sx_lstore at hq
  split at hq
  · cases hq
    exact lv_lstore_n X.1 X.2.1 hd rfl hl hn rfl (fun ls2 hl2 => kk ls2 (mx_lset2_has hl2))
  · cases hq
theorem sn_lstore {k : Nat} (hd : decode cc pc = .ok (.lstore k, 2)) (hn : k + 1 < nL) : mx_W own ynm cc nL ret fr lc pc (sx_lstore k (pc + 2)) := by
  refine mx_W.of (fun lv st h q hq => by unfold sx_lstore at hq; split at hq <;> cases hq; rfl) ?_
  intro p l e R s m args below meth c D cI cZ A g Q hfr hlc X lv st h q hq H locs ls cells slots hR hS hl kk
  unfold sx_lstore at hq
  split at hq
  · cases hq
    exact lv_lstore X.1 X.2.1 hd hl hn rfl (fun ls2 hl2 => kk ls2 (mx_lset2_has hl2))
  · cases hq
def sx_iinc (i : Nat) (d : Int32) (n : Nat) : mx_F := fun lv st h => match mx_lget lv i with
  | some (.int x) => some (n, mx_lset lv i (.int (x + d)), st, h)
  | _ => none
theorem mx_lget_pos {lv : mx_L} {i : Nat} {v : Value} (h : mx_lget lv i = some v) : ∃ k : Nat, lv[k]? = some (i, v) := by
  unfold mx_lget at h
  cases hq : lv.find? (fun q => q.1 == i) with
  | none => rw [hq] at h; cases h
  | some q =>
    rw [hq] at h
    have h1 : q ∈ lv := List.mem_of_find?_eq_some hq
    have h2 : q.1 = i := by have := List.find?_some hq; simpa using this
    have h3 : q.2 = v := by simpa using h
    obtain ⟨k, hk⟩ := List.getElem?_of_mem h1
    exact ⟨k, by rw [hk, ← h2, ← h3]⟩
theorem sn_iinc {k : Nat} {d : Int} {v : Int32} (hd : decode cc pc = .ok (.iinc k d, 3)) (hv : Int32.ofInt d = v) (hn : k < nL) : mx_W own ynm cc nL ret fr lc pc (sx_iinc k v (pc + 3)) := by
  refine mx_W.of (fun lv st h q hq => by unfold sx_iinc at hq; split at hq <;> cases hq; rfl) ?_
  intro p l e R s m args below meth c D cI cZ A g Q hfr hlc X lv st h q hq H locs ls cells slots hR hS hl kk
  unfold sx_iinc at hq
  split at hq
  · rename_i x hx
    cases hq
    obtain ⟨j, hj⟩ := mx_lget_pos hx
    exact lv_iinc X.1 X.2.1 hd hl hj (by rw [hv]) hn rfl (fun ls2 hl2 => kk ls2 (mx_lset_has hl2))
  · cases hq
def sx_bin (g : Int32 → Int32 → Int32) (n : Nat) : mx_F := fun lv st h => match st with
  | .int y :: .int x :: r => some (n, lv, .int (g x y) :: r, h)
  | _ => none
def sx_div (g : Int32 → Int32 → Int32) (n : Nat) : mx_F := fun lv st h => match st with
  | .int y :: .int x :: r => if y = 0 then none else some (n, lv, .int (g x y) :: r, h)
  | _ => none
theorem sn_iadd (hd : decode cc pc = .ok (.iadd, 1)) : mx_W own ynm cc nL ret fr lc pc (sx_bin (fun x y => x + y) (pc + 1)) := by
  refine mx_W.of (fun lv st h q hq => by unfold sx_bin at hq; split at hq <;> cases hq; rfl) ?_
  intro p l e R s m args below meth c D cI cZ A g Q hfr hlc X lv st h q hq H locs ls cells slots hR hS hl kk
  unfold sx_bin at hq
  split at hq
  · cases hq
    exact lv_iadd X.1 X.2.1 hd (kk ls hl)
  · cases hq
theorem sn_isub (hd : decode cc pc = .ok (.isub, 1)) : mx_W own ynm cc nL ret fr lc pc (sx_bin (fun x y => x - y) (pc + 1)) := by
  refine mx_W.of (fun lv st h q hq => by unfold sx_bin at hq; split at hq <;> cases hq; rfl) ?_
  intro p l e R s m args below meth c D cI cZ A g Q hfr hlc X lv st h q hq H locs ls cells slots hR hS hl kk
  unfold sx_bin at hq
  split at hq
  · cases hq
    exact lv_isub X.1 X.2.1 hd (kk ls hl)
  · cases hq
theorem sn_imul (hd : decode cc pc = .ok (.imul, 1)) : mx_W own ynm cc nL ret fr lc pc (sx_bin (fun x y => x * y) (pc + 1)) := by
  refine mx_W.of (fun lv st h q hq => by unfold sx_bin at hq; split at hq <;> cases hq; rfl) ?_
  intro p l e R s m args below meth c D cI cZ A g Q hfr hlc X lv st h q hq H locs ls cells slots hR hS hl kk
  unfold sx_bin at hq
  split at hq
  · cases hq
    exact lv_imul X.1 X.2.1 hd (kk ls hl)
  · cases hq
theorem sn_iand (hd : decode cc pc = .ok (.iand, 1)) : mx_W own ynm cc nL ret fr lc pc (sx_bin (fun x y => x &&& y) (pc + 1)) := by
  refine mx_W.of (fun lv st h q hq => by unfold sx_bin at hq; split at hq <;> cases hq; rfl) ?_
  intro p l e R s m args below meth c D cI cZ A g Q hfr hlc X lv st h q hq H locs ls cells slots hR hS hl kk
  unfold sx_bin at hq
  split at hq
  · cases hq
    exact lv_iand X.1 X.2.1 hd (kk ls hl)
  · cases hq
theorem sn_ior (hd : decode cc pc = .ok (.ior, 1)) : mx_W own ynm cc nL ret fr lc pc (sx_bin (fun x y => x ||| y) (pc + 1)) := by
  refine mx_W.of (fun lv st h q hq => by unfold sx_bin at hq; split at hq <;> cases hq; rfl) ?_
  intro p l e R s m args below meth c D cI cZ A g Q hfr hlc X lv st h q hq H locs ls cells slots hR hS hl kk
  unfold sx_bin at hq
  split at hq
  · cases hq
    exact lv_ior X.1 X.2.1 hd (kk ls hl)
  · cases hq
theorem sn_ixor (hd : decode cc pc = .ok (.ixor, 1)) : mx_W own ynm cc nL ret fr lc pc (sx_bin (fun x y => x ^^^ y) (pc + 1)) := by
  refine mx_W.of (fun lv st h q hq => by unfold sx_bin at hq; split at hq <;> cases hq; rfl) ?_
  intro p l e R s m args below meth c D cI cZ A g Q hfr hlc X lv st h q hq H locs ls cells slots hR hS hl kk
  unfold sx_bin at hq
  split at hq
  · cases hq
    exact lv_ixor X.1 X.2.1 hd (kk ls hl)
  · cases hq
theorem sn_ishl (hd : decode cc pc = .ok (.ishl, 1)) : mx_W own ynm cc nL ret fr lc pc (sx_bin (fun x y => x <<< (y &&& 31)) (pc + 1)) := by
  refine mx_W.of (fun lv st h q hq => by unfold sx_bin at hq; split at hq <;> cases hq; rfl) ?_
  intro p l e R s m args below meth c D cI cZ A g Q hfr hlc X lv st h q hq H locs ls cells slots hR hS hl kk
  unfold sx_bin at hq
  split at hq
  · cases hq
    exact lv_ishl X.1 X.2.1 hd (kk ls hl)
  · cases hq
theorem sn_ishr (hd : decode cc pc = .ok (.ishr, 1)) : mx_W own ynm cc nL ret fr lc pc (sx_bin (fun x y => x >>> (y &&& 31)) (pc + 1)) := by
  refine mx_W.of (fun lv st h q hq => by unfold sx_bin at hq; split at hq <;> cases hq; rfl) ?_
  intro p l e R s m args below meth c D cI cZ A g Q hfr hlc X lv st h q hq H locs ls cells slots hR hS hl kk
  unfold sx_bin at hq
  split at hq
  · cases hq
    exact lv_ishr X.1 X.2.1 hd (kk ls hl)
  · cases hq
theorem sn_iushr (hd : decode cc pc = .ok (.iushr, 1)) : mx_W own ynm cc nL ret fr lc pc (sx_bin (fun x y => (x.toUInt32 >>> (y.toUInt32 &&& Int32.toUInt32 31)).toInt32) (pc + 1)) := by
  refine mx_W.of (fun lv st h q hq => by unfold sx_bin at hq; split at hq <;> cases hq; rfl) ?_
  intro p l e R s m args below meth c D cI cZ A g Q hfr hlc X lv st h q hq H locs ls cells slots hR hS hl kk
  unfold sx_bin at hq
  split at hq
  · cases hq
    exact lv_iushr X.1 X.2.1 hd rfl (kk ls hl)
  · cases hq
theorem sn_idiv (hd : decode cc pc = .ok (.idiv, 1)) : mx_W own ynm cc nL ret fr lc pc (sx_div (fun x y => x / y) (pc + 1)) := by
  refine mx_W.of (fun lv st h q hq => by unfold sx_div at hq; split at hq; (split at hq <;> cases hq; rfl); cases hq) ?_
  intro p l e R s m args below meth c D cI cZ A g Q hfr hlc X lv st h q hq H locs ls cells slots hR hS hl kk
  unfold sx_div at hq
  split at hq
  · split at hq
    · cases hq
    · rename_i hne
      cases hq
      exact lv_idiv X.1 X.2.1 hd hne (kk ls hl)
  · cases hq
theorem sn_irem (hd : decode cc pc = .ok (.irem, 1)) : mx_W own ynm cc nL ret fr lc pc (sx_div (fun x y => x - x / y * y) (pc + 1)) := by
  refine mx_W.of (fun lv st h q hq => by unfold sx_div at hq; split at hq; (split at hq <;> cases hq; rfl); cases hq) ?_
  intro p l e R s m args below meth c D cI cZ A g Q hfr hlc X lv st h q hq H locs ls cells slots hR hS hl kk
  unfold sx_div at hq
  split at hq
  · split at hq
    · cases hq
    · rename_i hne
      cases hq
      exact lv_irem X.1 X.2.1 hd hne (kk ls hl)
  · cases hq
def sx_ineg (n : Nat) : mx_F := fun lv st h => match st with
  | .int x :: r => some (n, lv, .int (-x) :: r, h)
  | _ => none
def sx_i2l (n : Nat) : mx_F := fun lv st h => match st with
  | .int x :: r => some (n, lv, .long x.toInt64 :: r, h)
  | _ => none
def sx_l2i (n : Nat) : mx_F := fun lv st h => match st with
  | .long x :: r => some (n, lv, .int x.toInt32 :: r, h)
  | _ => none
def sx_ladd (n : Nat) : mx_F := fun lv st h => match st with
  | .long y :: .long x :: r => some (n, lv, .long (x + y) :: r, h)
  | _ => none
def sx_lcmp (n : Nat) : mx_F := fun lv st h => match st with
  | .long y :: .long x :: r => some (n, lv, .int (lg_cmp x y) :: r, h)
  | _ => none
theorem sn_ineg (hd : decode cc pc = .ok (.ineg, 1)) : mx_W own ynm cc nL ret fr lc pc (sx_ineg (pc + 1)) := by
  refine mx_W.of (fun lv st h q hq => by unfold sx_ineg at hq; split at hq <;> cases hq; rfl) ?_
  intro p l e R s m args below meth c D cI cZ A g Q hfr hlc X lv st h q hq H locs ls cells slots hR hS hl kk
  unfold sx_ineg at hq
  split at hq
  · cases hq
    exact lv_ineg X.1 X.2.1 hd (kk ls hl)
  · cases hq
theorem sn_i2l (hd : decode cc pc = .ok (.i2l, 1)) : mx_W own ynm cc nL ret fr lc pc (sx_i2l (pc + 1)) := by
  refine mx_W.of (fun lv st h q hq => by unfold sx_i2l at hq; split at hq <;> cases hq; rfl) ?_
  intro p l e R s m args below meth c D cI cZ A g Q hfr hlc X lv st h q hq H locs ls cells slots hR hS hl kk
  unfold sx_i2l at hq
  split at hq
  · cases hq
    exact lv_i2l X.1 X.2.1 hd rfl (kk ls hl)
  · cases hq
theorem sn_l2i (hd : decode cc pc = .ok (.l2i, 1)) : mx_W own ynm cc nL ret fr lc pc (sx_l2i (pc + 1)) := by
  refine mx_W.of (fun lv st h q hq => by unfold sx_l2i at hq; split at hq <;> cases hq; rfl) ?_
  intro p l e R s m args below meth c D cI cZ A g Q hfr hlc X lv st h q hq H locs ls cells slots hR hS hl kk
  unfold sx_l2i at hq
  split at hq
  · cases hq
    exact lv_l2i X.1 X.2.1 hd rfl (kk ls hl)
  · cases hq
theorem sn_ladd (hd : decode cc pc = .ok (.ladd, 1)) : mx_W own ynm cc nL ret fr lc pc (sx_ladd (pc + 1)) := by
  refine mx_W.of (fun lv st h q hq => by unfold sx_ladd at hq; split at hq <;> cases hq; rfl) ?_
  intro p l e R s m args below meth c D cI cZ A g Q hfr hlc X lv st h q hq H locs ls cells slots hR hS hl kk
  unfold sx_ladd at hq
  split at hq
  · cases hq
    exact lv_ladd X.1 X.2.1 hd (kk ls hl)
  · cases hq
theorem sn_lcmp (hd : decode cc pc = .ok (.lcmp, 1)) : mx_W own ynm cc nL ret fr lc pc (sx_lcmp (pc + 1)) := by
  refine mx_W.of (fun lv st h q hq => by unfold sx_lcmp at hq; split at hq <;> cases hq; rfl) ?_
  intro p l e R s m args below meth c D cI cZ A g Q hfr hlc X lv st h q hq H locs ls cells slots hR hS hl kk
  unfold sx_lcmp at hq
  split at hq
  · cases hq
    exact W.lcmp X.1 X.2.1 hd (kk ls hl)
  · cases hq
def sx_if (g : Int32 → Bool) (t n : Nat) : mx_F := fun lv st h => match st with
  | .int x :: r => some (if g x = true then t else n, lv, r, h)
  | _ => none
def sx_icmp (g : Int32 → Int32 → Bool) (t n : Nat) : mx_F := fun lv st h => match st with
  | .int y :: .int x :: r => some (if g x y = true then t else n, lv, r, h)
  | _ => none
theorem sn_if_eq {off : Int} {t : Nat} (hd : decode cc pc = .ok (.ifCond .eq off, 3)) (ht : (pc : Int) + off = (t : Int)) : mx_W own ynm cc nL ret fr lc pc (sx_if (fun x => decide (x = 0)) t (pc + 3)) := by
  refine mx_W.of (fun lv st h q hq => by unfold sx_if at hq; split at hq <;> cases hq; rfl) ?_
  intro p l e R s m args below meth c D cI cZ A g Q hfr hlc X lv st h q hq H locs ls cells slots hR hS hl kk
  unfold sx_if at hq
  split at hq
  · cases hq
    refine lv_if_eq X.1 X.2.1 hd ht (fun hc => ?_) (fun hc => ?_)
    · have k1 := kk ls hl
      rw [if_pos (decide_eq_true hc)] at k1
      exact k1
    · have k1 := kk ls hl
      rw [if_neg (by rw [decide_eq_true_iff]; first | exact hc | exact fun z => z hc)] at k1
      exact k1
  · cases hq
theorem sn_icmp_eq {off : Int} {t : Nat} (hd : decode cc pc = .ok (.if_icmp .eq off, 3)) (ht : (pc : Int) + off = (t : Int)) : mx_W own ynm cc nL ret fr lc pc (sx_icmp (fun x y => decide (x = y)) t (pc + 3)) := by
  refine mx_W.of (fun lv st h q hq => by unfold sx_icmp at hq; split at hq <;> cases hq; rfl) ?_
  intro p l e R s m args below meth c D cI cZ A g Q hfr hlc X lv st h q hq H locs ls cells slots hR hS hl kk
  unfold sx_icmp at hq
  split at hq
  · cases hq
    refine lv_icmp_eq X.1 X.2.1 hd ht (fun hc => ?_) (fun hc => ?_)
    · have k1 := kk ls hl
      rw [if_pos (decide_eq_true hc)] at k1
      exact k1
    · have k1 := kk ls hl
      rw [if_neg (by rw [decide_eq_true_iff]; first | exact hc | exact fun z => z hc)] at k1
      exact k1
  · cases hq
theorem sn_if_ne {off : Int} {t : Nat} (hd : decode cc pc = .ok (.ifCond .ne off, 3)) (ht : (pc : Int) + off = (t : Int)) : mx_W own ynm cc nL ret fr lc pc (sx_if (fun x => decide (¬ x = 0)) t (pc + 3)) := by
  refine mx_W.of (fun lv st h q hq => by unfold sx_if at hq; split at hq <;> cases hq; rfl) ?_
  intro p l e R s m args below meth c D cI cZ A g Q hfr hlc X lv st h q hq H locs ls cells slots hR hS hl kk
  unfold sx_if at hq
  split at hq
  · cases hq
    refine lv_if_ne X.1 X.2.1 hd ht (fun hc => ?_) (fun hc => ?_)
    · have k1 := kk ls hl
      rw [if_pos (decide_eq_true hc)] at k1
      exact k1
    · have k1 := kk ls hl
      rw [if_neg (by rw [decide_eq_true_iff]; first | exact hc | exact fun z => z hc)] at k1
      exact k1
  · cases hq
theorem sn_icmp_ne {off : Int} {t : Nat} (hd : decode cc pc = .ok (.if_icmp .ne off, 3)) (ht : (pc : Int) + off = (t : Int)) : mx_W own ynm cc nL ret fr lc pc (sx_icmp (fun x y => decide (¬ x = y)) t (pc + 3)) := by
  refine mx_W.of (fun lv st h q hq => by unfold sx_icmp at hq; split at hq <;> cases hq; rfl) ?_
  intro p l e R s m args below meth c D cI cZ A g Q hfr hlc X lv st h q hq H locs ls cells slots hR hS hl kk
  unfold sx_icmp at hq
  split at hq
  · cases hq
    refine lv_icmp_ne X.1 X.2.1 hd ht (fun hc => ?_) (fun hc => ?_)
    · have k1 := kk ls hl
      rw [if_pos (decide_eq_true hc)] at k1
      exact k1
    · have k1 := kk ls hl
      rw [if_neg (by rw [decide_eq_true_iff]; first | exact hc | exact fun z => z hc)] at k1
      exact k1
  · cases hq
theorem sn_if_lt {off : Int} {t : Nat} (hd : decode cc pc = .ok (.ifCond .lt off, 3)) (ht : (pc : Int) + off = (t : Int)) : mx_W own ynm cc nL ret fr lc pc (sx_if (fun x => decide (x < 0)) t (pc + 3)) := by
  refine mx_W.of (fun lv st h q hq => by unfold sx_if at hq; split at hq <;> cases hq; rfl) ?_
  intro p l e R s m args below meth c D cI cZ A g Q hfr hlc X lv st h q hq H locs ls cells slots hR hS hl kk
  unfold sx_if at hq
  split at hq
  · cases hq
    refine lv_if_lt X.1 X.2.1 hd ht (fun hc => ?_) (fun hc => ?_)
    · have k1 := kk ls hl
      rw [if_pos (decide_eq_true hc)] at k1
      exact k1
    · have k1 := kk ls hl
      rw [if_neg (by rw [decide_eq_true_iff]; first | exact hc | exact fun z => z hc)] at k1
      exact k1
  · cases hq
theorem sn_icmp_lt {off : Int} {t : Nat} (hd : decode cc pc = .ok (.if_icmp .lt off, 3)) (ht : (pc : Int) + off = (t : Int)) : mx_W own ynm cc nL ret fr lc pc (sx_icmp (fun x y => decide (x < y)) t (pc + 3)) := by
  refine mx_W.of (fun lv st h q hq => by unfold sx_icmp at hq; split at hq <;> cases hq; rfl) ?_
  intro p l e R s m args below meth c D cI cZ A g Q hfr hlc X lv st h q hq H locs ls cells slots hR hS hl kk
  unfold sx_icmp at hq
  split at hq
  · cases hq
    refine lv_icmp_lt X.1 X.2.1 hd ht (fun hc => ?_) (fun hc => ?_)
    · have k1 := kk ls hl
      rw [if_pos (decide_eq_true hc)] at k1
      exact k1
    · have k1 := kk ls hl
      rw [if_neg (by rw [decide_eq_true_iff]; first | exact hc | exact fun z => z hc)] at k1
      exact k1
  · cases hq
theorem sn_if_ge {off : Int} {t : Nat} (hd : decode cc pc = .ok (.ifCond .ge off, 3)) (ht : (pc : Int) + off = (t : Int)) : mx_W own ynm cc nL ret fr lc pc (sx_if (fun x => decide (0 ≤ x)) t (pc + 3)) := by
  refine mx_W.of (fun lv st h q hq => by unfold sx_if at hq; split at hq <;> cases hq; rfl) ?_
  intro p l e R s m args below meth c D cI cZ A g Q hfr hlc X lv st h q hq H locs ls cells slots hR hS hl kk
  unfold sx_if at hq
  split at hq
  · cases hq
    refine lv_if_ge X.1 X.2.1 hd ht (fun hc => ?_) (fun hc => ?_)
    · have k1 := kk ls hl
      rw [if_pos (decide_eq_true hc)] at k1
      exact k1
    · have k1 := kk ls hl
      rw [if_neg (by rw [decide_eq_true_iff]; first | exact hc | exact fun z => z hc)] at k1
      exact k1
  · cases hq
theorem sn_icmp_ge {off : Int} {t : Nat} (hd : decode cc pc = .ok (.if_icmp .ge off, 3)) (ht : (pc : Int) + off = (t : Int)) : mx_W own ynm cc nL ret fr lc pc (sx_icmp (fun x y => decide (y ≤ x)) t (pc + 3)) := by
  refine mx_W.of (fun lv st h q hq => by unfold sx_icmp at hq; split at hq <;> cases hq; rfl) ?_
  intro p l e R s m args below meth c D cI cZ A g Q hfr hlc X lv st h q hq H locs ls cells slots hR hS hl kk
  unfold sx_icmp at hq
  split at hq
  · cases hq
    refine lv_icmp_ge X.1 X.2.1 hd ht (fun hc => ?_) (fun hc => ?_)
    · have k1 := kk ls hl
      rw [if_pos (decide_eq_true hc)] at k1
      exact k1
    · have k1 := kk ls hl
      rw [if_neg (by rw [decide_eq_true_iff]; first | exact hc | exact fun z => z hc)] at k1
      exact k1
  · cases hq
theorem sn_if_gt {off : Int} {t : Nat} (hd : decode cc pc = .ok (.ifCond .gt off, 3)) (ht : (pc : Int) + off = (t : Int)) : mx_W own ynm cc nL ret fr lc pc (sx_if (fun x => decide (0 < x)) t (pc + 3)) := by
  refine mx_W.of (fun lv st h q hq => by unfold sx_if at hq; split at hq <;> cases hq; rfl) ?_
  intro p l e R s m args below meth c D cI cZ A g Q hfr hlc X lv st h q hq H locs ls cells slots hR hS hl kk
  unfold sx_if at hq
  split at hq
  · cases hq
    refine lv_if_gt X.1 X.2.1 hd ht (fun hc => ?_) (fun hc => ?_)
    · have k1 := kk ls hl
      rw [if_pos (decide_eq_true hc)] at k1
      exact k1
    · have k1 := kk ls hl
      rw [if_neg (by rw [decide_eq_true_iff]; first | exact hc | exact fun z => z hc)] at k1
      exact k1
  · cases hq
theorem sn_icmp_gt {off : Int} {t : Nat} (hd : decode cc pc = .ok (.if_icmp .gt off, 3)) (ht : (pc : Int) + off = (t : Int)) : mx_W own ynm cc nL ret fr lc pc (sx_icmp (fun x y => decide (y < x)) t (pc + 3)) := by
  refine mx_W.of (fun lv st h q hq => by unfold sx_icmp at hq; split at hq <;> cases hq; rfl) ?_
  intro p l e R s m args below meth c D cI cZ A g Q hfr hlc X lv st h q hq H locs ls cells slots hR hS hl kk
  unfold sx_icmp at hq
  split at hq
  · cases hq
    refine lv_icmp_gt X.1 X.2.1 hd ht (fun hc => ?_) (fun hc => ?_)
    · have k1 := kk ls hl
      rw [if_pos (decide_eq_true hc)] at k1
      exact k1
    · have k1 := kk ls hl
      rw [if_neg (by rw [decide_eq_true_iff]; first | exact hc | exact fun z => z hc)] at k1
      exact k1
  · cases hq
theorem sn_if_le {off : Int} {t : Nat} (hd : decode cc pc = .ok (.ifCond .le off, 3)) (ht : (pc : Int) + off = (t : Int)) : mx_W own ynm cc nL ret fr lc pc (sx_if (fun x => decide (x ≤ 0)) t (pc + 3)) := by
  refine mx_W.of (fun lv st h q hq => by unfold sx_if at hq; split at hq <;> cases hq; rfl) ?_
  intro p l e R s m args below meth c D cI cZ A g Q hfr hlc X lv st h q hq H locs ls cells slots hR hS hl kk
  unfold sx_if at hq
  split at hq
  · cases hq
    refine lv_if_le X.1 X.2.1 hd ht (fun hc => ?_) (fun hc => ?_)
    · have k1 := kk ls hl
      rw [if_pos (decide_eq_true hc)] at k1
      exact k1
    · have k1 := kk ls hl
      rw [if_neg (by rw [decide_eq_true_iff]; first | exact hc | exact fun z => z hc)] at k1
      exact k1
  · cases hq
theorem sn_icmp_le {off : Int} {t : Nat} (hd : decode cc pc = .ok (.if_icmp .le off, 3)) (ht : (pc : Int) + off = (t : Int)) : mx_W own ynm cc nL ret fr lc pc (sx_icmp (fun x y => decide (x ≤ y)) t (pc + 3)) := by
  refine mx_W.of (fun lv st h q hq => by unfold sx_icmp at hq; split at hq <;> cases hq; rfl) ?_
  intro p l e R s m args below meth c D cI cZ A g Q hfr hlc X lv st h q hq H locs ls cells slots hR hS hl kk
  unfold sx_icmp at hq
  split at hq
  · cases hq
    refine lv_icmp_le X.1 X.2.1 hd ht (fun hc => ?_) (fun hc => ?_)
    · have k1 := kk ls hl
      rw [if_pos (decide_eq_true hc)] at k1
      exact k1
    · have k1 := kk ls hl
      rw [if_neg (by rw [decide_eq_true_iff]; first | exact hc | exact fun z => z hc)] at k1
      exact k1
  · cases hq
def sx_goto (t : Nat) : mx_F := fun lv st h => some (t, lv, st, h)
theorem sn_goto {off : Int} {t : Nat} (hd : decode cc pc = .ok (.goto off, 3)) (ht : (pc : Int) + off = (t : Int)) : mx_W own ynm cc nL ret fr lc pc (sx_goto t) := by
  refine mx_W.of (fun lv st h q hq => by cases hq; rfl) ?_
  intro p l e R s m args below meth c D cI cZ A g Q hfr hlc X lv st h q hq H locs ls cells slots hR hS hl kk
  cases hq
  exact lv_goto X.1 X.2.1 hd ht (kk ls hl)
def sx_table (dt : Nat) (lo hi : Int) (ts : List Nat) : mx_F := fun lv st h => match st with
  | .int x :: r => if x.toInt < lo ∨ hi < x.toInt then some (dt, lv, r, h) else (match ts[(x.toInt - lo).toNat]? with
    | some t => some (t, lv, r, h)
    | none => none)
  | _ => none
theorem sn_table {df lo hi : Int} {offs : Array Int} {len dt : Nat} {ts : List Nat} (hd : decode cc pc = .ok (.tableswitch df lo hi offs, len)) (hdt : (pc : Int) + df = (dt : Int)) (hts : offs.toList.map (fun x => (pc : Int) + x) = ts.map (fun (t : Nat) => (t : Int))) : mx_W own ynm cc nL ret fr lc pc (sx_table dt lo hi ts) := by
  refine mx_W.of (fun lv st h q hq => by unfold sx_table at hq; split at hq; (split at hq; (cases hq; rfl); (split at hq <;> cases hq; rfl)); cases hq) ?_
  intro p l e R s m args below meth c D cI cZ A g Q hfr hlc X lv st h q hq H locs ls cells slots hR hS hl kk
  unfold sx_table at hq
  split at hq
  · rename_i x r
    split at hq
    · rename_i hc
      cases hq
      exact lv_tableOut X.1 X.2.1 hd hc hdt (kk ls hl)
    · rename_i hc
      split at hq
      · rename_i t ht
        cases hq
        have e1 : (offs.toList.map (fun x => (pc : Int) + x))[(x.toInt - lo).toNat]? = some (t : Int) := by rw [hts, List.getElem?_map, ht]; rfl
        rw [List.getElem?_map] at e1
        cases ho : offs.toList[(x.toInt - lo).toNat]? with
        | none => rw [ho] at e1; cases e1
        | some off =>
          rw [ho] at e1
          exact lv_tableIn X.1 X.2.1 hd (fun z => hc (Or.inl z)) (fun z => hc (Or.inr z)) (by rw [← Array.getElem?_toList]; exact ho) (Option.some.inj e1) (kk ls hl)
      · cases hq
  · cases hq
def sx_dup (n : Nat) : mx_F := fun lv st h => match st with
  | v :: r => if v.category = 1 then some (n, lv, v :: v :: r, h) else none
  | _ => none
def sx_pop (n : Nat) : mx_F := fun lv st h => match st with
  | v :: r => if v.category = 1 then some (n, lv, r, h) else none
  | _ => none
theorem sn_dup (hd : decode cc pc = .ok (.dup, 1)) : mx_W own ynm cc nL ret fr lc pc (sx_dup (pc + 1)) := by
  refine mx_W.of (fun lv st h q hq => by unfold sx_dup at hq; split at hq; (split at hq <;> cases hq; rfl); cases hq) ?_
  intro p l e R s m args below meth c D cI cZ A g Q hfr hlc X lv st h q hq H locs ls cells slots hR hS hl kk
  unfold sx_dup at hq
  split at hq
  · split at hq
    · rename_i hc
      cases hq
      exact lv_dup X.1 X.2.1 hd hc (kk ls hl)
    · cases hq
  · cases hq
theorem sn_pop (hd : decode cc pc = .ok (.pop, 1)) : mx_W own ynm cc nL ret fr lc pc (sx_pop (pc + 1)) := by
  refine mx_W.of (fun lv st h q hq => by unfold sx_pop at hq; split at hq; (split at hq <;> cases hq; rfl); cases hq) ?_
  intro p l e R s m args below meth c D cI cZ A g Q hfr hlc X lv st h q hq H locs ls cells slots hR hS hl kk
  unfold sx_pop at hq
  split at hq
  · split at hq
    · rename_i hc
      cases hq
      exact lv_pop X.1 X.2.1 hd hc (kk ls hl)
    · cases hq
  · cases hq
end SX
