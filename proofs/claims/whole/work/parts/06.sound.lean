/-! METHODS: a table's run gives the method's contract -/
/-- a method: its name, code, locals, what it answers; frames and locals' room below it -/
abbrev mx_I : Type := MethodName × ByteArray × Nat × Option FieldType × Nat × Nat
def mx_retd (cc : ByteArray) (pc : Nat) : Option FieldType → Prop
  | none => decode cc pc = .ok (.return_, 1)
  | some .int => decode cc pc = .ok (.ireturn, 1)
  | some .boolean => decode cc pc = .ok (.ireturn, 1)
  | some .long => decode cc pc = .ok (.lreturn, 1)
  | some (.object _) => decode cc pc = .ok (.areturn, 1)
  | some (.array _) => decode cc pc = .ok (.areturn, 1)
  | _ => False
def mx_link (own : String) (idx : Nat) (y : MethodName) : Prop := Cond.methodLink own idx y ∈ mx_tb ∨ ∃ host, Cond.methodLinkNest own idx y host ∈ mx_nst
def mx_call (i j : mx_I) (pc : Nat) (c : Nat × Nat × Option (Option Nat) × Nat) : Prop :=
  j.2.2.2.2.1 + 1 ≤ i.2.2.2.2.1 ∧ 8 + (j.2.2.1 + 11) + j.2.2.2.2.2 ≤ i.2.2.2.2.2 ∧ c.2.2.2 = j.2.2.1 ∧ Cond.code j.1 j.2.1 j.2.2.1 j.2.2.2.1 ∈ mx_tb ∧ Cond.initialized j.1.cls ∈ mx_tb ∧ (j.1.cls ≠ "java/lang/invoke/MethodHandle" ∧ j.1.cls ≠ "java/lang/invoke/VarHandle") ∧ ∃ n idx : Nat, (parseMethodDescriptor j.1.desc).map (fun d => d.parameters.length) = some n ∧ mx_link i.1.cls idx j.1 ∧
  ((c.2.1 = n + 1 ∧ (∃ (ci N : Nat) (T : u_T), c.2.2.1 = some (some ci) ∧ mx_cl[ci]? = some (j.1.cls, T, N)) ∧ decode i.2.1 pc = .ok (.invokevirtual idx, 3) ∧ Cond.instanceMethod j.1 ∈ mx_tb ∧ Cond.selects j.1.cls j.1 j.1 ∈ mx_tb) ∨
   (c.2.1 = n ∧ decode i.2.1 pc = .ok (.invokestatic idx, 3) ∧ Cond.static j.1 ∈ mx_tb) ∨
   (c.2.1 = n + 1 ∧ c.2.2.1 = some none ∧ decode i.2.1 pc = .ok (.invokespecial idx, 3) ∧ j.1.name = "<init>" ∧ j.2.2.2.1 = none ∧ Cond.instanceMethod j.1 ∈ mx_tb))
def mx_ok (I : Nat → Option mx_I) (i : mx_I) (pc : Nat) : mx_E → Prop
  | .inl f => mx_W i.1.cls i.1.name i.2.1 i.2.2.1 i.2.2.2.1 i.2.2.2.2.1 i.2.2.2.2.2 pc f
  | .inr (.inl c) => ∃ j, I c.1 = some j ∧ mx_call i j pc c
  | .inr (.inr ty) => i.2.2.2.1 = ty ∧ mx_retd i.2.1 pc ty
def mx_Pre (D : va_G) (cI cZ : ClassId) (av : List Value) (h : mx_H) : Array Value → State → Prop :=
  va_Pc av (fun U => mx_R D cI cZ (fun _ => True) h.2.2.2 h U.heap ∧ va_K D mx_cl (mx_tys cI cZ) U ∧ (∀ w ∈ mx_nst, va_Nw w U) ∧ mx_Z (mx_A h) h.2.2.2 U U.heap)
def mx_Post (D : va_G) (cI cZ : ClassId) (h : mx_H) (v : Option Value) (hf : mx_H) : Array Value → State → Outcome → State → Prop := fun _ st oc t =>
  oc = .returned v ∧ mx_R D cI cZ (mx_A h) h.2.2.2 hf t.heap ∧ va_F (mx_A h) st t
def mx_rm (j : mx_I) (h hf : mx_H) : Room := { frames := j.2.2.2.2.1, cells := hf.1 - h.1, slots := hf.2.1 - h.2.1, locals := j.2.2.2.2.2 }
def mx_ws (j : mx_I) : List Cond := Cond.code j.1 j.2.1 j.2.2.1 j.2.2.2.1 :: mx_tb
def mx_Met (M : Nat → Nat → Option mx_E) (l : Launch) (D : va_G) (cI cZ : ClassId) (mi : Nat) (j : mx_I) : Prop :=
  ∀ (n : Nat) (av : List Value) (h : mx_H) (v : Option Value) (hf : mx_H), mx_exec M n mi 0 (lv_args 0 av) [] h = some (v, hf) → (lg_sl av).length ≤ j.2.2.1 →
    Met l j.1 (mx_ws j) (mx_rm j h hf) (mx_Pre D cI cZ av h) (mx_Post D cI cZ h v hf) (hf.1 - h.1) (hf.2.1 - h.2.1) (mx_A h)
def mx_mono (M : Nat → Nat → Option mx_E) : Prop := ∀ (mi pc : Nat) (f : mx_F), M mi pc = some (.inl f) → ∀ lv st h q, f lv st h = some q → h.1 ≤ q.2.2.2.1 ∧ h.2.1 ≤ q.2.2.2.2.1 ∧ q.2.2.2.2.2.2 = h.2.2.2
theorem mx_exec_mono {M : Nat → Nat → Option mx_E} (hM : mx_mono M) : ∀ (n mi pc : Nat) (lv : mx_L) (st : List Value) (h : mx_H) (r : Option Value × mx_H), mx_exec M n mi pc lv st h = some r → h.1 ≤ r.2.1 ∧ h.2.1 ≤ r.2.2.1 ∧ r.2.2.2.2 = h.2.2.2 := by
  intro n
  induction n with
  | zero => intro mi pc lv st h r e; simp [mx_exec] at e
  | succ n ih =>
    intro mi pc lv st h r e
    rw [mx_exec] at e
    cases hE : M mi pc with
    | none => rw [hE] at e; cases e
    | some x =>
      rw [hE] at e
      rcases x with f | c | ty
      · cases hq : f lv st h with
        | none => simp only [hq] at e; cases e
        | some q =>
          simp only [hq] at e
          obtain ⟨a1, a2, a3⟩ := hM mi pc f hE lv st h q hq
          obtain ⟨b1, b2, b3⟩ := ih _ _ _ _ _ _ e
          exact ⟨Nat.le_trans a1 b1, Nat.le_trans a2 b2, b3.trans a3⟩
      · by_cases hk : mx_cok c st h = true
        · simp only [hk, if_true] at e
          cases hq : mx_exec M n c.1 0 (lv_args 0 (st.take c.2.1).reverse) [] h with
          | none => simp only [hq] at e; cases e
          | some q =>
            simp only [hq] at e
            obtain ⟨a1, a2, a3⟩ := ih _ _ _ _ _ _ hq
            obtain ⟨b1, b2, b3⟩ := ih _ _ _ _ _ _ e
            exact ⟨Nat.le_trans a1 b1, Nat.le_trans a2 b2, b3.trans a3⟩
        · simp only [hk] at e
          cases e
      · simp only at e
        unfold mx_ret at e
        split at e
        · cases e; exact ⟨Nat.le_refl _, Nat.le_refl _, rfl⟩
        · split at e
          · cases e; exact ⟨Nat.le_refl _, Nat.le_refl _, rfl⟩
          · cases e
        · cases e
theorem mx_R.weak {D : va_G} {cI cZ : ClassId} {A B : Nat → Prop} {g : mx_G} {h : mx_H} {H : Heap} (hR : mx_R D cI cZ A g h H) (hB : ∀ q, A q → B q) : mx_R D cI cZ B g h H := ⟨hR.1, hR.2.1, fun a c hc => ⟨(hR.2.2 a c hc).1, hB a (hR.2.2 a c hc).2⟩⟩
theorem mx_R.self {D : va_G} {cI cZ : ClassId} {A : Nat → Prop} {g : mx_G} {h : mx_H} {H : Heap} (hR : mx_R D cI cZ A g h H) : mx_R D cI cZ (mx_A h) g h H := ⟨hR.1, hR.2.1, fun a c hc => ⟨(hR.2.2 a c hc).1, Or.inl (by rw [hc]; rfl)⟩⟩
theorem mx_Z.keep {A : Nat → Prop} {g : mx_G} {s : State} {H : Heap} {locs : List Loc} (hZ : mx_Z A g s s.heap) (hS : va_S A s.heap H locs) : mx_Z A g s H :=
  ⟨fun k q hk => (hZ.1 k q hk).kept hS.2.1, fun a n f hf => (hZ.2 a n f hf).kept hS.2.1⟩
theorem mx_Z.move {A : Nat → Prop} {g : mx_G} {s U : State} {H : Heap} (hv : s.vm.Alike U.vm) (hZ : mx_Z A g s H) : mx_Z A g U H :=
  ⟨fun k q hk => va_Z.moved hv (hZ.1 k q hk), fun a n f hf => va_T.moved hv (hZ.2 a n f hf)⟩
theorem mx_Z.less {A B : Nat → Prop} {g : mx_G} {s : State} {H : Heap} (hZ : mx_Z A g s H) (hB : ∀ q, B q → A q) : mx_Z B g s H :=
  ⟨fun k q hk => (hZ.1 k q hk).narrow hB, fun a n f hf => (hZ.2 a n f hf).narrow hB⟩
theorem mx_Pre.blind {D : va_G} {cI cZ : ClassId} {av : List Value} {h : mx_H} : FrameBlind (mx_Pre D cI cZ av h) := by
  intro a U g mk q
  obtain ⟨q0, qR, qK, qN, qZ⟩ := q
  exact ⟨q0, qR, va_K.moved (u := U) (U := U.calling g mk a) (Vm.Alike.refl U.vm) qK, mx_nst_same (u := U) (U := U.calling g mk a) rfl qN, mx_Z.move (s := U) (U := U.calling g mk a) (Vm.Alike.refl U.vm) qZ⟩
theorem mx_go {p : Program} {l : Launch} {e : Env} {R : Room} {s : State} {m : MethodId} {args : Array Value} {below : List Frame} {meth : Method} {c : Code} {H : Heap} {locs : List Loc} {cells slots mc ms pc : Nat} {Q : State → Prop} {ls : Array Slot} {st0 rest : List Value} {D : va_G} {cI cZ : ClassId} {A : Nat → Prop} {h hf : mx_H} {v : Option Value} {a : Array Value}
    (hr : va_Run p l e R s m args below meth c H locs cells slots mc ms (F0 m pc ls st0) rest (mx_Post D cI cZ h v hf a) (mx_A h)) (hS : va_S A s.heap H locs) (hA : ∀ q, mx_A h q → A q)
    (kk : ∀ (H1 : Heap) (locs1 : List Loc), mx_R D cI cZ A h.2.2.2 hf H1 → va_S A s.heap H1 locs1 → W p l e R s m args below meth c H1 locs1 (cells + mc) (slots + ms) Q (F0 m (pc + 3) ls (v.toList ++ rest))) : W p l e R s m args below meth c H locs cells slots Q (F0 m pc ls st0) := by
  intro T hT X
  obtain ⟨v1, st1, t, T', L, h0, X', hL, e1, e2, ⟨hv, hR1, hz, hk⟩, st⟩ := hr T hT X
  cases hv
  rw [h0] at hz hk
  have hS1 : va_S A s.heap T'.heap (locs ++ L) := by
    refine ⟨Nat.le_trans hS.1 (by rw [e1]; exact hz), fun q h1 h2 => ?_, fun q hq => ?_⟩
    · rw [e1, hk q (Nat.lt_of_lt_of_le h1 hS.1) (fun z => h2 (hA q z))]
      exact hS.2.1 q h1 h2
    · rcases List.mem_append.mp hq with h | h
      · exact hS.2.2 q h
      · exact hA _ (hL q h)
  obtain ⟨t2, a1, b1⟩ := kk T'.heap (locs ++ L) (by rw [e1]; exact hR1.weak hA) hS1 T' rfl X'
  exact ⟨t2, st t2 a1, b1⟩
