/-- a method whose every entry is sound has its contract, if those that it calls have theirs -/
theorem mx_method {M : Nat → Nat → Option mx_E} {I : Nat → Option mx_I} (hmono : mx_mono M) {l : Launch} {D : va_G} {cI cZ : ClassId} {mi : Nat} {i : mx_I} (hpl : plainName i.1.cls = true) (hok : ∀ (pc : Nat) (en : mx_E), M mi pc = some en → mx_ok I i pc en)
    (hrec : ∀ (mj : Nat) (j : mx_I), I mj = some j → j.2.2.2.2.1 < i.2.2.2.2.1 → mx_Met M l D cI cZ mj j) : mx_Met M l D cI cZ mi i := by
  intro n0 av h0 v hf hex0 hav
  refine Met.ofW (cc := i.2.1) (maxL := i.2.2.1) (ret := i.2.2.2.1) hpl rfl ?_
  intro p e s m args below meth c s₁ B hml hv
  obtain ⟨rfl, hR0, hK, hN, hZ⟩ := hv
  have hx := B.exec
  have hb := B.bytes
  have hr := B.returns
  have hts0 := atoms_spec (ws := mx_ws i) B.pre
  have hts : ∀ w ∈ mx_tb, w.before av.toArray s = true := fun w hw => hts0 w (List.mem_cons_of_mem _ hw)
  have hown : s.vm.findClass i.1.cls = some m.cls := findClass_of_methodNamed B.named
  have hlocks := B.notSynchronized
  have hin : meth.name = i.1.name := (name_of_methodNamed B.named B.method).1
  have hA : ∀ q, s.heap.size ≤ q → mx_A h0 q := fun q hq => Or.inr (by rw [← hR0.1]; exact hq)
  have X : mx_X i.1.cls i.1.name i.2.1 i.2.2.1 i.2.2.2.1 p (headSpec (mx_ws i) (mx_rm i h0 hf)).room s m av.toArray meth c D cI cZ (mx_A h0) h0.2.2.2 := ⟨hx, hb, hml, hr, hown, hts, hlocks, hin, hK, hN, hZ, hA⟩
  have run : ∀ (n pc : Nat) (lv : mx_L) (st : List Value) (h : mx_H), mx_exec M n mi pc lv st h = some (v, hf) → ∀ (H : Heap) (locs : List Loc) (ls : Array Slot), mx_R D cI cZ (mx_A h0) h0.2.2.2 h H → va_S (mx_A h0) s.heap H locs → lv_has ls i.2.2.1 lv → h0.1 ≤ h.1 → h0.2.1 ≤ h.2.1 →
      W p l e (headSpec (mx_ws i) (mx_rm i h0 hf)).room s m av.toArray below meth c H locs (h.1 - h0.1) (h.2.1 - h0.2.1) (MQ below (mx_Post D cI cZ h0 v hf) av.toArray s (hf.1 - h0.1) (hf.2.1 - h0.2.1) (mx_A h0)) (F0 m pc ls st) := by
    intro n
    induction n with
    | zero => intro pc lv st h hex; simp [mx_exec] at hex
    | succ n ih =>
      intro pc lv st h hex H locs ls hR hS hl hz1 hz2
      have hmn := mx_exec_mono hmono _ _ _ _ _ _ _ hex
      rw [mx_exec] at hex
      cases hE : M mi pc with
      | none => rw [hE] at hex; cases hex
      | some x =>
        rw [hE] at hex
        have hent := hok pc x hE
        rcases x with f | cl | ty
        · cases hq : f lv st h with
          | none => simp only [hq] at hex; cases hex
          | some q =>
            simp only [hq] at hex
            have m1 := hent.1 lv st h q hq
            have m2 := mx_exec_mono hmono _ _ _ _ _ _ _ hex
            dsimp only at m2
            have ea : h.1 - h0.1 + (q.2.2.2.1 - h.1) = q.2.2.2.1 - h0.1 := by omega
            have eb : h.2.1 - h0.2.1 + (q.2.2.2.2.1 - h.2.1) = q.2.2.2.2.1 - h0.2.1 := by omega
            refine hent.2 p l e _ s m av.toArray below meth c D cI cZ (mx_A h0) h0.2.2.2 _ (Nat.le_refl _) (Nat.le_refl _) X lv st h q hq H locs ls _ _ hR hS hl ?_ ?_ ?_
            · rw [ea]; show _ ≤ hf.1 - h0.1; omega
            · rw [eb]; show _ ≤ hf.2.1 - h0.2.1; omega
            · intro H' locs' ls' hR' hS' hl'
              rw [ea, eb]
              exact ih _ _ _ _ hex H' locs' ls' hR' hS' hl' (by omega) (by omega)
        · obtain ⟨j, hj, hcall⟩ := hent
          by_cases hk : mx_cok cl st h = true
          · simp only [hk, if_true] at hex
            cases hq : mx_exec M n cl.1 0 (lv_args 0 (st.take cl.2.1).reverse) [] h with
            | none => simp only [hq] at hex; cases hex
            | some q =>
              simp only [hq] at hex
              have m1 := mx_exec_mono hmono _ _ _ _ _ _ _ hq
              have m2 := mx_exec_mono hmono _ _ _ _ _ _ _ hex
              dsimp only at m2
              have ea : h.1 - h0.1 + (q.2.1 - h.1) = q.2.1 - h0.1 := by omega
              have eb : h.2.1 - h0.2.1 + (q.2.2.1 - h.2.1) = q.2.2.1 - h0.2.1 := by omega
              have hk2 := hk
              unfold mx_cok at hk2
              simp only [Bool.and_eq_true, decide_eq_true_eq] at hk2
              have hMj := hrec cl.1 j hj (by have := hcall.1; omega) n (st.take cl.2.1).reverse h q.1 q.2 hq (by rw [← hcall.2.2.1]; exact hk2.2.2.1)
              refine mx_do_call X (Nat.le_refl _) (Nat.le_refl _) hcall hk hMj hR hS hl ?_ ?_ ?_
              · rw [ea]; show _ ≤ hf.1 - h0.1; omega
              · rw [eb]; show _ ≤ hf.2.1 - h0.2.1; omega
              · intro H1 locs1 hR1 hS1
                rw [ea, eb]
                exact ih _ _ _ _ hex H1 locs1 ls hR1 hS1 hl (by omega) (by omega)
          · simp only [hk] at hex
            cases hex
        · obtain ⟨hty, hdec⟩ := hent
          simp only at hex
          have hr' : meth.sig.returnType = ty := hr.trans hty
          cases ty with
          | none =>
            unfold mx_ret at hex
            split at hex
            · cases hex
              exact W.vret hx hb hr' (fun t ht hW => ⟨rfl, by rw [ht]; exact hR, hS.F ht⟩) hS.2.2 hdec
            · rename_i heq; cases heq
            · cases hex
          | some ty =>
            have h9 : ∃ w, st = [w] ∧ mx_rok ty w = true ∧ v = some w ∧ hf = h := by
              unfold mx_ret at hex
              split at hex
              · rename_i heq; cases heq
              · rename_i ty' w heq
                cases heq
                split at hex
                · rename_i hk
                  cases hex
                  exact ⟨w, rfl, hk, rfl, rfl⟩
                · cases hex
              · cases hex
            obtain ⟨w, rfl, hrok, rfl, rfl⟩ := h9
            have hpost : ∀ t : State, t.heap = H → s.WarmedH t.vm → mx_Post D cI cZ h0 (some w) hf av.toArray s (.returned (some w)) t := fun t ht hW => ⟨rfl, by rw [ht]; exact hR, hS.F ht⟩
            unfold mx_rok at hrok
            split at hrok
            · exact W.aret hx hb hr' (Or.inl ⟨_, rfl⟩) (Or.inr ⟨_, rfl⟩) hpost hS.2.2 hdec
            · exact W.aret hx hb hr' (Or.inl ⟨_, rfl⟩) (Or.inl rfl) hpost hS.2.2 hdec
            · exact W.aret hx hb hr' (Or.inr ⟨_, rfl⟩) (Or.inr ⟨_, rfl⟩) hpost hS.2.2 hdec
            · exact W.aret hx hb hr' (Or.inr ⟨_, rfl⟩) (Or.inl rfl) hpost hS.2.2 hdec
            · exact W.lret hx hb hr' hpost hS.2.2 hdec
            · exact W.iret hx hb hr' hpost hS.2.2 hdec
            · exact W.zret hx hb hr' (by simpa using hrok) hpost hS.2.2 hdec
            · cases hrok
  have hl := lv_entry av (n := i.2.2.1) hav
  rw [lg_entry_eq]
  have h1 := run n0 0 (lv_args 0 av) [] h0 hex0 s.heap [] _ hR0.self va_S.rf hl (Nat.le_refl _) (Nat.le_refl _)
  rw [Nat.sub_self, Nat.sub_self] at h1
  exact h1
/-- all methods at once, by the frames that they need -/
theorem mx_sound {M : Nat → Nat → Option mx_E} {I : Nat → Option mx_I} (hmono : mx_mono M) {l : Launch} {D : va_G} {cI cZ : ClassId}
    (hok : ∀ (mi : Nat) (i : mx_I), I mi = some i → (plainName i.1.cls = true ∧ ∀ (pc : Nat) (en : mx_E), M mi pc = some en → mx_ok I i pc en) ∨ mx_Met M l D cI cZ mi i) : ∀ (mi : Nat) (i : mx_I), I mi = some i → mx_Met M l D cI cZ mi i := by
  have hd : ∀ (d mi : Nat) (i : mx_I), I mi = some i → i.2.2.2.2.1 < d → mx_Met M l D cI cZ mi i := by
    intro d
    induction d with
    | zero => intro mi i _ h; omega
    | succ d ih =>
      intro mi i hi hlt
      rcases hok mi i hi with ⟨h1, h2⟩ | h1
      · exact mx_method hmono h1 h2 (fun mj j hj hjl => ih mj j hj (by omega))
      · exact h1
  exact fun mi i hi => hd _ mi i hi (Nat.lt_succ_self _)
