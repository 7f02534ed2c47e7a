/-! THE REFERENCE: isSaid (walks by wip/gen87.py) -/
abbrev sd1 (c : List II) (q : Nat) : Prop := j_fit1 (nb c q) (ar c q) = true ∧ (nb c q = 13 → oI (plc c (ar c q)) = nI q) ∧ (¬ nb c q < 10 → ¬ 12 < nb c q → ¬ oI (plc c (ar c q)) = -1) ∧ (nb c q = 18 → nI (q + 1) < nI c.length ∧ nb c (q + 1) = 12)
theorem sd_up {c : List II} {i : Nat} (h : ∀ q, q < i → sd1 c q) (h1 : sd1 c i) : ∀ q, q < i + 1 → sd1 c q := fun q hq => by
  by_cases e : q = i
  · rw [e]; exact h1
  · exact h q (by omega)
section MO3
variable {Bk : xS} {z : Nat} {NK : List Nat} {g : mx_G} {S : xS} {P : Option Value → xS → Prop} {th sz va fu hg : Int32} {nu ag lo wo he go ro : Nat → Int32} {c : List II}
set_option maxHeartbeats 16000000 in
/-- RowCodeModel.isSaid()Z -/
theorem c_said (hM : MO Bk z S th (nI c.length) va fu hg nu ag lo wo he go ro) (hC : CO c nu ag) (hn : c.length ≤ 400) (hP : ∀ b : Bool, (b = true ↔ ∀ q, q < c.length → sd1 c q) → P (some (.int (bI b))) S) : xw z NK g 123 0 [(0, .ref (z + 52))] [] S P := by
  obtain ⟨q52, q53, q54, q55, q56, q57, q58, q59, qB⟩ := id hM
  have loop : ∀ (d i : Nat) (hi : i + d = c.length) (b : Bool) (hb : b = true ↔ ∀ q, q < i → sd1 c q) (hP : ∀ b : Bool, (b = true ↔ ∀ q, q < c.length → sd1 c q) → P (some (.int (bI b))) S), xw z NK g 123 4 [(0, .ref (z + 52)), (1, .int (bI b)), (2, .int (nI i))] [] S P := by
    intro d
    induction d with
    | zero =>
      intro i hi b hb hP
      refine xw.steps 2 (fun _ => rfl) ?_
      refine xw.getf (o := 52) rfl q52 rfl ?_
      refine xw.icmp rfl (fun c1 => ?_) (fun c1 => ?_)
      · have c1 := Int32.not_lt.mpr (of_decide_eq_true c1)
        refine xw.steps 1 (fun _ => rfl) ?_
        refine xw.ret rfl (fun _ => mx_ret_b _ _) ?_
        show P (some (.int (bI b))) S
        have e : i = c.length := by omega
        subst e
        exact hP b hb
      · have c1 := Int32.not_le.mp (of_decide_eq_false c1)
        show xw z NK g 123 12 [(0, .ref (z + 52)), (1, .int (bI b)), (2, .int (nI i))] [] S P
        exact absurd c1 (nI_nlt (by omega) (by omega))
    | succ d ih =>
      intro i hi b hb hP
      refine xw.steps 2 (fun _ => rfl) ?_
      refine xw.getf (o := 52) rfl q52 rfl ?_
      refine xw.icmp rfl (fun c1 => ?_) (fun c1 => ?_)
      · have c1 := Int32.not_lt.mpr (of_decide_eq_true c1)
        refine xw.steps 1 (fun _ => rfl) ?_
        refine xw.ret rfl (fun _ => mx_ret_b _ _) ?_
        show P (some (.int (bI b))) S
        exact absurd (nI_lt (by omega) (by omega)) c1
      · have c1 := Int32.not_le.mp (of_decide_eq_false c1)
        show xw z NK g 123 12 [(0, .ref (z + 52)), (1, .int (bI b)), (2, .int (nI i))] [] S P
        have hlt := (nI_ltI (by omega) (by omega)).mp c1
        have ec : (nI i).toNatClampNeg = i := nI_clamp (by omega)
        obtain ⟨a1, a2⟩ := hC i hlt
        refine xw.steps 1 (fun _ => rfl) ?_
        refine xw.getf (o := 52) rfl q52 rfl ?_
        refine xw.steps 1 (fun _ => rfl) ?_
        refine xw.ald (o := 53) rfl q53 (nI_in (by omega) (by omega)) ?_
        refine xw.steps 2 (fun _ => rfl) ?_
        refine xw.if_ rfl (fun c2 => ?_) (fun c2 => ?_)
        · have c2 := bI_eq0 (of_decide_eq_true c2)
          refine xw.steps 3 (fun _ => rfl) ?_
          refine xw.steps 1 (pc' := 70) (fun _ => rfl) ?_
          refine xw.steps 3 (fun _ => rfl) ?_
          refine xw.steps 1 (pc' := 106) (fun _ => rfl) ?_
          refine xw.steps 3 (fun _ => rfl) ?_
          refine xw.steps 1 (pc' := 145) (fun _ => rfl) ?_
          refine xw.steps 4 (fun _ => rfl) ?_
          show xw z NK g 123 4 [(0, .ref (z + 52)), (1, .int 0), (2, .int ((nI i) + 1)), (3, .int (nu (nI i).toNatClampNeg))] [] S P
          rw [nI_1]
          refine xw.forget (lv := [(0, .ref (z + 52)), (1, .int (bI false)), (2, .int (nI (i + 1)))]) lk_123 (show [0, 1, 2].Nodup by decide) (show [0, 1, 2, 3].Nodup by decide) (List.forall_mem_cons.mpr ⟨rfl, List.forall_mem_cons.mpr ⟨rfl, List.forall_mem_cons.mpr ⟨rfl, fun _ h => absurd h List.not_mem_nil⟩⟩⟩) ?_
          try simp only [ec, a1, a2, nI_1] at c2
          refine ih (i + 1) (by omega) false ⟨fun w => (by cases w), fun w => ?_⟩ hP
          exfalso
          have hw := hb.mpr (fun q hq => w q (by omega))
          rw [c2] at hw; cases hw
        · have c2 := bI_ne0 (of_decide_eq_false c2)
          refine xw.steps 2 (fun _ => rfl) ?_
          refine xw.getf (o := 52) rfl q52 rfl ?_
          refine xw.steps 1 (fun _ => rfl) ?_
          refine xw.ald (o := 54) rfl q54 (nI_in (by omega) (by omega)) ?_
          show xw z NK g 123 30 [(0, .ref (z + 52)), (1, .int (bI b)), (2, .int (nI i)), (3, .int (nu (nI i).toNatClampNeg))] [.int (ag (nI i).toNatClampNeg), .int (nu (nI i).toNatClampNeg)] S P
          refine xw.callS rfl rfl rfl rfl rfl (c_good ?_)
          show xw z NK g 123 33 [(0, .ref (z + 52)), (1, .int (bI b)), (2, .int (nI i)), (3, .int (nu (nI i).toNatClampNeg))] [.int (bI (j_fit1 (nu (nI i).toNatClampNeg) (ag (nI i).toNatClampNeg)))] S P
          refine xw.if_ rfl (fun c3 => ?_) (fun c3 => ?_)
          · have c3 := bI_eq0 (of_decide_eq_true c3)
            refine xw.steps 3 (fun _ => rfl) ?_
            refine xw.steps 1 (pc' := 70) (fun _ => rfl) ?_
            refine xw.steps 3 (fun _ => rfl) ?_
            refine xw.steps 1 (pc' := 106) (fun _ => rfl) ?_
            refine xw.steps 3 (fun _ => rfl) ?_
            refine xw.steps 1 (pc' := 145) (fun _ => rfl) ?_
            refine xw.steps 4 (fun _ => rfl) ?_
            show xw z NK g 123 4 [(0, .ref (z + 52)), (1, .int 0), (2, .int ((nI i) + 1)), (3, .int (nu (nI i).toNatClampNeg))] [] S P
            rw [nI_1]
            refine xw.forget (lv := [(0, .ref (z + 52)), (1, .int (bI false)), (2, .int (nI (i + 1)))]) lk_123 (show [0, 1, 2].Nodup by decide) (show [0, 1, 2, 3].Nodup by decide) (List.forall_mem_cons.mpr ⟨rfl, List.forall_mem_cons.mpr ⟨rfl, List.forall_mem_cons.mpr ⟨rfl, fun _ h => absurd h List.not_mem_nil⟩⟩⟩) ?_
            try simp only [ec, a1, a2, nI_1] at c2 c3
            refine ih (i + 1) (by omega) false ⟨fun w => (by cases w), fun w => ?_⟩ hP
            exfalso
            obtain ⟨w1, w2, w3, w4⟩ := w i (by omega)
            clear hP ih hb
            first | (simp_all; done) | (have w5 := w4 (by assumption); first | exact absurd w5.1 (by assumption) | (have w6 := hC (i + 1) ((nI_ltI (by omega) (by omega)).mp w5.1); simp only [nI_clamp (show i + 1 < 2 ^ 31 by omega)] at *; simp_all; done))
          · have c3 := bI_ne0 (of_decide_eq_false c3)
            refine xw.steps 4 (fun _ => rfl) ?_
            refine xw.steps 1 (pc' := 46) (fun _ => rfl) ?_
            refine xw.steps 2 (fun _ => rfl) ?_
            refine xw.icmp rfl (fun c4 => ?_) (fun c4 => ?_)
            · have c4 := of_decide_eq_true c4
              refine xw.steps 4 (fun _ => rfl) ?_
              refine xw.steps 1 (pc' := 76) (fun _ => rfl) ?_
              refine xw.steps 2 (fun _ => rfl) ?_
              refine xw.icmp rfl (fun c5 => ?_) (fun c5 => ?_)
              · have c5 := of_decide_eq_true c5
                refine xw.steps 4 (fun _ => rfl) ?_
                refine xw.steps 1 (pc' := 112) (fun _ => rfl) ?_
                refine xw.steps 2 (fun _ => rfl) ?_
                refine xw.icmp rfl (fun c6 => ?_) (fun c6 => ?_)
                · have c6 := of_decide_eq_true c6
                  refine xw.steps 5 (fun _ => rfl) ?_
                  show xw z NK g 123 4 [(0, .ref (z + 52)), (1, .int 1), (2, .int ((nI i) + 1)), (3, .int (nu (nI i).toNatClampNeg))] [] S P
                  rw [nI_1]
                  refine xw.forget (lv := [(0, .ref (z + 52)), (1, .int (bI true)), (2, .int (nI (i + 1)))]) lk_123 (show [0, 1, 2].Nodup by decide) (show [0, 1, 2, 3].Nodup by decide) (List.forall_mem_cons.mpr ⟨rfl, List.forall_mem_cons.mpr ⟨rfl, List.forall_mem_cons.mpr ⟨rfl, fun _ h => absurd h List.not_mem_nil⟩⟩⟩) ?_
                  try simp only [ec, a1, a2, nI_1] at c2 c3 c4 c5 c6
                  refine ih (i + 1) (by omega) true ⟨fun _ => sd_up (hb.mp c2) ?_, fun _ => rfl⟩ hP
                  refine ⟨c3, ?_, ?_, ?_⟩
                  all_goals (clear hP ih hb; intros; first | assumption | contradiction | (simp_all; done) | (refine ⟨?_, ?_⟩ <;> first | assumption | (have := hC (i + 1) ((nI_ltI (by omega) (by omega)).mp (by assumption)); rw [nI_clamp (by omega)] at *; simp_all; done)))
                · have c6 := Decidable.not_not.mp (of_decide_eq_false c6)
                  refine xw.steps 4 (fun _ => rfl) ?_
                  refine xw.getf (o := 52) rfl q52 rfl ?_
                  refine xw.icmp rfl (fun c7 => ?_) (fun c7 => ?_)
                  · have c7 := Int32.not_lt.mpr (of_decide_eq_true c7)
                    refine xw.steps 4 (fun _ => rfl) ?_
                    show xw z NK g 123 4 [(0, .ref (z + 52)), (1, .int 0), (2, .int ((nI i) + 1)), (3, .int (nu (nI i).toNatClampNeg))] [] S P
                    rw [nI_1]
                    refine xw.forget (lv := [(0, .ref (z + 52)), (1, .int (bI false)), (2, .int (nI (i + 1)))]) lk_123 (show [0, 1, 2].Nodup by decide) (show [0, 1, 2, 3].Nodup by decide) (List.forall_mem_cons.mpr ⟨rfl, List.forall_mem_cons.mpr ⟨rfl, List.forall_mem_cons.mpr ⟨rfl, fun _ h => absurd h List.not_mem_nil⟩⟩⟩) ?_
                    try simp only [ec, a1, a2, nI_1] at c2 c3 c4 c5 c6 c7
                    refine ih (i + 1) (by omega) false ⟨fun w => (by cases w), fun w => ?_⟩ hP
                    exfalso
                    obtain ⟨w1, w2, w3, w4⟩ := w i (by omega)
                    clear hP ih hb
                    first | (simp_all; done) | (have w5 := w4 (by assumption); first | exact absurd w5.1 (by assumption) | (have w6 := hC (i + 1) ((nI_ltI (by omega) (by omega)).mp w5.1); simp only [nI_clamp (show i + 1 < 2 ^ 31 by omega)] at *; simp_all; done))
                  · have c7 := Int32.not_le.mp (of_decide_eq_false c7)
                    refine xw.steps 1 (fun _ => rfl) ?_
                    refine xw.getf (o := 52) rfl q52 rfl ?_
                    refine xw.steps 3 (fun _ => rfl) ?_
                    refine xw.ald (o := 53) rfl q53 ((by show ¬ (nI i + 1 < 0 ∨ 400 ≤ (nI i + 1).toNatClampNeg); rw [nI_1]; exact nI_in (by have := (nI_ltI (a := i + 1) (b := c.length) (by omega) (by omega)).mp (by rw [← nI_1]; exact c7); omega) (by omega))) ?_
                    refine xw.steps 1 (fun _ => rfl) ?_
                    refine xw.icmp rfl (fun c8 => ?_) (fun c8 => ?_)
                    · have c8 := of_decide_eq_true c8
                      refine xw.steps 4 (fun _ => rfl) ?_
                      show xw z NK g 123 4 [(0, .ref (z + 52)), (1, .int 0), (2, .int ((nI i) + 1)), (3, .int (nu (nI i).toNatClampNeg))] [] S P
                      rw [nI_1]
                      refine xw.forget (lv := [(0, .ref (z + 52)), (1, .int (bI false)), (2, .int (nI (i + 1)))]) lk_123 (show [0, 1, 2].Nodup by decide) (show [0, 1, 2, 3].Nodup by decide) (List.forall_mem_cons.mpr ⟨rfl, List.forall_mem_cons.mpr ⟨rfl, List.forall_mem_cons.mpr ⟨rfl, fun _ h => absurd h List.not_mem_nil⟩⟩⟩) ?_
                      try simp only [ec, a1, a2, nI_1] at c2 c3 c4 c5 c6 c7 c8
                      refine ih (i + 1) (by omega) false ⟨fun w => (by cases w), fun w => ?_⟩ hP
                      exfalso
                      obtain ⟨w1, w2, w3, w4⟩ := w i (by omega)
                      clear hP ih hb
                      first | (simp_all; done) | (have w5 := w4 (by assumption); first | exact absurd w5.1 (by assumption) | (have w6 := hC (i + 1) ((nI_ltI (by omega) (by omega)).mp w5.1); simp only [nI_clamp (show i + 1 < 2 ^ 31 by omega)] at *; simp_all; done))
                    · have c8 := Decidable.not_not.mp (of_decide_eq_false c8)
                      refine xw.steps 5 (fun _ => rfl) ?_
                      show xw z NK g 123 4 [(0, .ref (z + 52)), (1, .int 1), (2, .int ((nI i) + 1)), (3, .int (nu (nI i).toNatClampNeg))] [] S P
                      rw [nI_1]
                      refine xw.forget (lv := [(0, .ref (z + 52)), (1, .int (bI true)), (2, .int (nI (i + 1)))]) lk_123 (show [0, 1, 2].Nodup by decide) (show [0, 1, 2, 3].Nodup by decide) (List.forall_mem_cons.mpr ⟨rfl, List.forall_mem_cons.mpr ⟨rfl, List.forall_mem_cons.mpr ⟨rfl, fun _ h => absurd h List.not_mem_nil⟩⟩⟩) ?_
                      try simp only [ec, a1, a2, nI_1] at c2 c3 c4 c5 c6 c7 c8
                      refine ih (i + 1) (by omega) true ⟨fun _ => sd_up (hb.mp c2) ?_, fun _ => rfl⟩ hP
                      refine ⟨c3, ?_, ?_, ?_⟩
                      all_goals (clear hP ih hb; intros; first | assumption | contradiction | (simp_all; done) | (refine ⟨?_, ?_⟩ <;> first | assumption | (have := hC (i + 1) ((nI_ltI (by omega) (by omega)).mp (by assumption)); rw [nI_clamp (by omega)] at *; simp_all; done)))
              · have c5 := of_decide_eq_false c5
                refine xw.steps 2 (fun _ => rfl) ?_
                refine xw.icmp rfl (fun c9 => ?_) (fun c9 => ?_)
                · have c9 := of_decide_eq_true c9
                  refine xw.steps 4 (fun _ => rfl) ?_
                  refine xw.steps 1 (pc' := 112) (fun _ => rfl) ?_
                  refine xw.steps 2 (fun _ => rfl) ?_
                  refine xw.icmp rfl (fun c10 => ?_) (fun c10 => ?_)
                  · have c10 := of_decide_eq_true c10
                    refine xw.steps 5 (fun _ => rfl) ?_
                    show xw z NK g 123 4 [(0, .ref (z + 52)), (1, .int 1), (2, .int ((nI i) + 1)), (3, .int (nu (nI i).toNatClampNeg))] [] S P
                    rw [nI_1]
                    refine xw.forget (lv := [(0, .ref (z + 52)), (1, .int (bI true)), (2, .int (nI (i + 1)))]) lk_123 (show [0, 1, 2].Nodup by decide) (show [0, 1, 2, 3].Nodup by decide) (List.forall_mem_cons.mpr ⟨rfl, List.forall_mem_cons.mpr ⟨rfl, List.forall_mem_cons.mpr ⟨rfl, fun _ h => absurd h List.not_mem_nil⟩⟩⟩) ?_
                    try simp only [ec, a1, a2, nI_1] at c2 c3 c4 c5 c9 c10
                    refine ih (i + 1) (by omega) true ⟨fun _ => sd_up (hb.mp c2) ?_, fun _ => rfl⟩ hP
                    refine ⟨c3, ?_, ?_, ?_⟩
                    all_goals (clear hP ih hb; intros; first | assumption | contradiction | (simp_all; done) | (refine ⟨?_, ?_⟩ <;> first | assumption | (have := hC (i + 1) ((nI_ltI (by omega) (by omega)).mp (by assumption)); rw [nI_clamp (by omega)] at *; simp_all; done)))
                  · have c10 := Decidable.not_not.mp (of_decide_eq_false c10)
                    refine xw.steps 4 (fun _ => rfl) ?_
                    refine xw.getf (o := 52) rfl q52 rfl ?_
                    refine xw.icmp rfl (fun c11 => ?_) (fun c11 => ?_)
                    · have c11 := Int32.not_lt.mpr (of_decide_eq_true c11)
                      refine xw.steps 4 (fun _ => rfl) ?_
                      show xw z NK g 123 4 [(0, .ref (z + 52)), (1, .int 0), (2, .int ((nI i) + 1)), (3, .int (nu (nI i).toNatClampNeg))] [] S P
                      rw [nI_1]
                      refine xw.forget (lv := [(0, .ref (z + 52)), (1, .int (bI false)), (2, .int (nI (i + 1)))]) lk_123 (show [0, 1, 2].Nodup by decide) (show [0, 1, 2, 3].Nodup by decide) (List.forall_mem_cons.mpr ⟨rfl, List.forall_mem_cons.mpr ⟨rfl, List.forall_mem_cons.mpr ⟨rfl, fun _ h => absurd h List.not_mem_nil⟩⟩⟩) ?_
                      try simp only [ec, a1, a2, nI_1] at c2 c3 c4 c5 c9 c10 c11
                      refine ih (i + 1) (by omega) false ⟨fun w => (by cases w), fun w => ?_⟩ hP
                      exfalso
                      obtain ⟨w1, w2, w3, w4⟩ := w i (by omega)
                      clear hP ih hb
                      first | (simp_all; done) | (have w5 := w4 (by assumption); first | exact absurd w5.1 (by assumption) | (have w6 := hC (i + 1) ((nI_ltI (by omega) (by omega)).mp w5.1); simp only [nI_clamp (show i + 1 < 2 ^ 31 by omega)] at *; simp_all; done))
                    · have c11 := Int32.not_le.mp (of_decide_eq_false c11)
                      refine xw.steps 1 (fun _ => rfl) ?_
                      refine xw.getf (o := 52) rfl q52 rfl ?_
                      refine xw.steps 3 (fun _ => rfl) ?_
                      refine xw.ald (o := 53) rfl q53 ((by show ¬ (nI i + 1 < 0 ∨ 400 ≤ (nI i + 1).toNatClampNeg); rw [nI_1]; exact nI_in (by have := (nI_ltI (a := i + 1) (b := c.length) (by omega) (by omega)).mp (by rw [← nI_1]; exact c11); omega) (by omega))) ?_
                      refine xw.steps 1 (fun _ => rfl) ?_
                      refine xw.icmp rfl (fun c12 => ?_) (fun c12 => ?_)
                      · have c12 := of_decide_eq_true c12
                        refine xw.steps 4 (fun _ => rfl) ?_
                        show xw z NK g 123 4 [(0, .ref (z + 52)), (1, .int 0), (2, .int ((nI i) + 1)), (3, .int (nu (nI i).toNatClampNeg))] [] S P
                        rw [nI_1]
                        refine xw.forget (lv := [(0, .ref (z + 52)), (1, .int (bI false)), (2, .int (nI (i + 1)))]) lk_123 (show [0, 1, 2].Nodup by decide) (show [0, 1, 2, 3].Nodup by decide) (List.forall_mem_cons.mpr ⟨rfl, List.forall_mem_cons.mpr ⟨rfl, List.forall_mem_cons.mpr ⟨rfl, fun _ h => absurd h List.not_mem_nil⟩⟩⟩) ?_
                        try simp only [ec, a1, a2, nI_1] at c2 c3 c4 c5 c9 c10 c11 c12
                        refine ih (i + 1) (by omega) false ⟨fun w => (by cases w), fun w => ?_⟩ hP
                        exfalso
                        obtain ⟨w1, w2, w3, w4⟩ := w i (by omega)
                        clear hP ih hb
                        first | (simp_all; done) | (have w5 := w4 (by assumption); first | exact absurd w5.1 (by assumption) | (have w6 := hC (i + 1) ((nI_ltI (by omega) (by omega)).mp w5.1); simp only [nI_clamp (show i + 1 < 2 ^ 31 by omega)] at *; simp_all; done))
                      · have c12 := Decidable.not_not.mp (of_decide_eq_false c12)
                        refine xw.steps 5 (fun _ => rfl) ?_
                        show xw z NK g 123 4 [(0, .ref (z + 52)), (1, .int 1), (2, .int ((nI i) + 1)), (3, .int (nu (nI i).toNatClampNeg))] [] S P
                        rw [nI_1]
                        refine xw.forget (lv := [(0, .ref (z + 52)), (1, .int (bI true)), (2, .int (nI (i + 1)))]) lk_123 (show [0, 1, 2].Nodup by decide) (show [0, 1, 2, 3].Nodup by decide) (List.forall_mem_cons.mpr ⟨rfl, List.forall_mem_cons.mpr ⟨rfl, List.forall_mem_cons.mpr ⟨rfl, fun _ h => absurd h List.not_mem_nil⟩⟩⟩) ?_
                        try simp only [ec, a1, a2, nI_1] at c2 c3 c4 c5 c9 c10 c11 c12
                        refine ih (i + 1) (by omega) true ⟨fun _ => sd_up (hb.mp c2) ?_, fun _ => rfl⟩ hP
                        refine ⟨c3, ?_, ?_, ?_⟩
                        all_goals (clear hP ih hb; intros; first | assumption | contradiction | (simp_all; done) | (refine ⟨?_, ?_⟩ <;> first | assumption | (have := hC (i + 1) ((nI_ltI (by omega) (by omega)).mp (by assumption)); rw [nI_clamp (by omega)] at *; simp_all; done)))
                · have c9 := of_decide_eq_false c9
                  refine xw.steps 2 (fun _ => rfl) ?_
                  refine xw.getf (o := 52) rfl q52 rfl ?_
                  refine xw.steps 1 (fun _ => rfl) ?_
                  refine xw.ald (o := 54) rfl q54 (nI_in (by omega) (by omega)) ?_
                  show xw z NK g 123 95 [(0, .ref (z + 52)), (1, .int 1), (2, .int (nI i)), (3, .int (nu (nI i).toNatClampNeg))] [.int (ag (nI i).toNatClampNeg), .ref (z + 52)] S P
                  refine xw.callO (o := 52) rfl rfl rfl q52 rfl rfl (c_place hM hC hn ?_)
                  show xw z NK g 123 98 [(0, .ref (z + 52)), (1, .int 1), (2, .int (nI i)), (3, .int (nu (nI i).toNatClampNeg))] [.int (oI (plc c (ag (nI i).toNatClampNeg)))] S P
                  refine xw.steps 1 (fun _ => rfl) ?_
                  refine xw.icmp rfl (fun c13 => ?_) (fun c13 => ?_)
                  · have c13 := of_decide_eq_true c13
                    refine xw.steps 3 (fun _ => rfl) ?_
                    refine xw.steps 1 (pc' := 145) (fun _ => rfl) ?_
                    refine xw.steps 4 (fun _ => rfl) ?_
                    show xw z NK g 123 4 [(0, .ref (z + 52)), (1, .int 0), (2, .int ((nI i) + 1)), (3, .int (nu (nI i).toNatClampNeg))] [] S P
                    rw [nI_1]
                    refine xw.forget (lv := [(0, .ref (z + 52)), (1, .int (bI false)), (2, .int (nI (i + 1)))]) lk_123 (show [0, 1, 2].Nodup by decide) (show [0, 1, 2, 3].Nodup by decide) (List.forall_mem_cons.mpr ⟨rfl, List.forall_mem_cons.mpr ⟨rfl, List.forall_mem_cons.mpr ⟨rfl, fun _ h => absurd h List.not_mem_nil⟩⟩⟩) ?_
                    try simp only [ec, a1, a2, nI_1] at c2 c3 c4 c5 c9 c13
                    refine ih (i + 1) (by omega) false ⟨fun w => (by cases w), fun w => ?_⟩ hP
                    exfalso
                    obtain ⟨w1, w2, w3, w4⟩ := w i (by omega)
                    clear hP ih hb
                    first | (simp_all; done) | (have w5 := w4 (by assumption); first | exact absurd w5.1 (by assumption) | (have w6 := hC (i + 1) ((nI_ltI (by omega) (by omega)).mp w5.1); simp only [nI_clamp (show i + 1 < 2 ^ 31 by omega)] at *; simp_all; done))
                  · have c13 := of_decide_eq_false c13
                    refine xw.steps 4 (fun _ => rfl) ?_
                    refine xw.steps 1 (pc' := 112) (fun _ => rfl) ?_
                    refine xw.steps 2 (fun _ => rfl) ?_
                    refine xw.icmp rfl (fun c14 => ?_) (fun c14 => ?_)
                    · have c14 := of_decide_eq_true c14
                      refine xw.steps 5 (fun _ => rfl) ?_
                      show xw z NK g 123 4 [(0, .ref (z + 52)), (1, .int 1), (2, .int ((nI i) + 1)), (3, .int (nu (nI i).toNatClampNeg))] [] S P
                      rw [nI_1]
                      refine xw.forget (lv := [(0, .ref (z + 52)), (1, .int (bI true)), (2, .int (nI (i + 1)))]) lk_123 (show [0, 1, 2].Nodup by decide) (show [0, 1, 2, 3].Nodup by decide) (List.forall_mem_cons.mpr ⟨rfl, List.forall_mem_cons.mpr ⟨rfl, List.forall_mem_cons.mpr ⟨rfl, fun _ h => absurd h List.not_mem_nil⟩⟩⟩) ?_
                      try simp only [ec, a1, a2, nI_1] at c2 c3 c4 c5 c9 c13 c14
                      refine ih (i + 1) (by omega) true ⟨fun _ => sd_up (hb.mp c2) ?_, fun _ => rfl⟩ hP
                      refine ⟨c3, ?_, ?_, ?_⟩
                      all_goals (clear hP ih hb; intros; first | assumption | contradiction | (simp_all; done) | (refine ⟨?_, ?_⟩ <;> first | assumption | (have := hC (i + 1) ((nI_ltI (by omega) (by omega)).mp (by assumption)); rw [nI_clamp (by omega)] at *; simp_all; done)))
                    · have c14 := Decidable.not_not.mp (of_decide_eq_false c14)
                      refine xw.steps 4 (fun _ => rfl) ?_
                      refine xw.getf (o := 52) rfl q52 rfl ?_
                      refine xw.icmp rfl (fun c15 => ?_) (fun c15 => ?_)
                      · have c15 := Int32.not_lt.mpr (of_decide_eq_true c15)
                        refine xw.steps 4 (fun _ => rfl) ?_
                        show xw z NK g 123 4 [(0, .ref (z + 52)), (1, .int 0), (2, .int ((nI i) + 1)), (3, .int (nu (nI i).toNatClampNeg))] [] S P
                        rw [nI_1]
                        refine xw.forget (lv := [(0, .ref (z + 52)), (1, .int (bI false)), (2, .int (nI (i + 1)))]) lk_123 (show [0, 1, 2].Nodup by decide) (show [0, 1, 2, 3].Nodup by decide) (List.forall_mem_cons.mpr ⟨rfl, List.forall_mem_cons.mpr ⟨rfl, List.forall_mem_cons.mpr ⟨rfl, fun _ h => absurd h List.not_mem_nil⟩⟩⟩) ?_
                        try simp only [ec, a1, a2, nI_1] at c2 c3 c4 c5 c9 c13 c14 c15
                        refine ih (i + 1) (by omega) false ⟨fun w => (by cases w), fun w => ?_⟩ hP
                        exfalso
                        obtain ⟨w1, w2, w3, w4⟩ := w i (by omega)
                        clear hP ih hb
                        first | (simp_all; done) | (have w5 := w4 (by assumption); first | exact absurd w5.1 (by assumption) | (have w6 := hC (i + 1) ((nI_ltI (by omega) (by omega)).mp w5.1); simp only [nI_clamp (show i + 1 < 2 ^ 31 by omega)] at *; simp_all; done))
                      · have c15 := Int32.not_le.mp (of_decide_eq_false c15)
                        refine xw.steps 1 (fun _ => rfl) ?_
                        refine xw.getf (o := 52) rfl q52 rfl ?_
                        refine xw.steps 3 (fun _ => rfl) ?_
                        refine xw.ald (o := 53) rfl q53 ((by show ¬ (nI i + 1 < 0 ∨ 400 ≤ (nI i + 1).toNatClampNeg); rw [nI_1]; exact nI_in (by have := (nI_ltI (a := i + 1) (b := c.length) (by omega) (by omega)).mp (by rw [← nI_1]; exact c15); omega) (by omega))) ?_
                        refine xw.steps 1 (fun _ => rfl) ?_
                        refine xw.icmp rfl (fun c16 => ?_) (fun c16 => ?_)
                        · have c16 := of_decide_eq_true c16
                          refine xw.steps 4 (fun _ => rfl) ?_
                          show xw z NK g 123 4 [(0, .ref (z + 52)), (1, .int 0), (2, .int ((nI i) + 1)), (3, .int (nu (nI i).toNatClampNeg))] [] S P
                          rw [nI_1]
                          refine xw.forget (lv := [(0, .ref (z + 52)), (1, .int (bI false)), (2, .int (nI (i + 1)))]) lk_123 (show [0, 1, 2].Nodup by decide) (show [0, 1, 2, 3].Nodup by decide) (List.forall_mem_cons.mpr ⟨rfl, List.forall_mem_cons.mpr ⟨rfl, List.forall_mem_cons.mpr ⟨rfl, fun _ h => absurd h List.not_mem_nil⟩⟩⟩) ?_
                          try simp only [ec, a1, a2, nI_1] at c2 c3 c4 c5 c9 c13 c14 c15 c16
                          refine ih (i + 1) (by omega) false ⟨fun w => (by cases w), fun w => ?_⟩ hP
                          exfalso
                          obtain ⟨w1, w2, w3, w4⟩ := w i (by omega)
                          clear hP ih hb
                          first | (simp_all; done) | (have w5 := w4 (by assumption); first | exact absurd w5.1 (by assumption) | (have w6 := hC (i + 1) ((nI_ltI (by omega) (by omega)).mp w5.1); simp only [nI_clamp (show i + 1 < 2 ^ 31 by omega)] at *; simp_all; done))
                        · have c16 := Decidable.not_not.mp (of_decide_eq_false c16)
                          refine xw.steps 5 (fun _ => rfl) ?_
                          show xw z NK g 123 4 [(0, .ref (z + 52)), (1, .int 1), (2, .int ((nI i) + 1)), (3, .int (nu (nI i).toNatClampNeg))] [] S P
                          rw [nI_1]
                          refine xw.forget (lv := [(0, .ref (z + 52)), (1, .int (bI true)), (2, .int (nI (i + 1)))]) lk_123 (show [0, 1, 2].Nodup by decide) (show [0, 1, 2, 3].Nodup by decide) (List.forall_mem_cons.mpr ⟨rfl, List.forall_mem_cons.mpr ⟨rfl, List.forall_mem_cons.mpr ⟨rfl, fun _ h => absurd h List.not_mem_nil⟩⟩⟩) ?_
                          try simp only [ec, a1, a2, nI_1] at c2 c3 c4 c5 c9 c13 c14 c15 c16
                          refine ih (i + 1) (by omega) true ⟨fun _ => sd_up (hb.mp c2) ?_, fun _ => rfl⟩ hP
                          refine ⟨c3, ?_, ?_, ?_⟩
                          all_goals (clear hP ih hb; intros; first | assumption | contradiction | (simp_all; done) | (refine ⟨?_, ?_⟩ <;> first | assumption | (have := hC (i + 1) ((nI_ltI (by omega) (by omega)).mp (by assumption)); rw [nI_clamp (by omega)] at *; simp_all; done)))
            · have c4 := Decidable.not_not.mp (of_decide_eq_false c4)
              refine xw.steps 2 (fun _ => rfl) ?_
              refine xw.getf (o := 52) rfl q52 rfl ?_
              refine xw.steps 1 (fun _ => rfl) ?_
              refine xw.ald (o := 54) rfl q54 (nI_in (by omega) (by omega)) ?_
              show xw z NK g 123 59 [(0, .ref (z + 52)), (1, .int 1), (2, .int (nI i)), (3, .int (nu (nI i).toNatClampNeg))] [.int (ag (nI i).toNatClampNeg), .ref (z + 52)] S P
              refine xw.callO (o := 52) rfl rfl rfl q52 rfl rfl (c_place hM hC hn ?_)
              show xw z NK g 123 62 [(0, .ref (z + 52)), (1, .int 1), (2, .int (nI i)), (3, .int (nu (nI i).toNatClampNeg))] [.int (oI (plc c (ag (nI i).toNatClampNeg)))] S P
              refine xw.steps 1 (fun _ => rfl) ?_
              refine xw.icmp rfl (fun c17 => ?_) (fun c17 => ?_)
              · have c17 := of_decide_eq_true c17
                refine xw.steps 3 (fun _ => rfl) ?_
                refine xw.steps 1 (pc' := 106) (fun _ => rfl) ?_
                refine xw.steps 3 (fun _ => rfl) ?_
                refine xw.steps 1 (pc' := 145) (fun _ => rfl) ?_
                refine xw.steps 4 (fun _ => rfl) ?_
                show xw z NK g 123 4 [(0, .ref (z + 52)), (1, .int 0), (2, .int ((nI i) + 1)), (3, .int (nu (nI i).toNatClampNeg))] [] S P
                rw [nI_1]
                refine xw.forget (lv := [(0, .ref (z + 52)), (1, .int (bI false)), (2, .int (nI (i + 1)))]) lk_123 (show [0, 1, 2].Nodup by decide) (show [0, 1, 2, 3].Nodup by decide) (List.forall_mem_cons.mpr ⟨rfl, List.forall_mem_cons.mpr ⟨rfl, List.forall_mem_cons.mpr ⟨rfl, fun _ h => absurd h List.not_mem_nil⟩⟩⟩) ?_
                try simp only [ec, a1, a2, nI_1] at c2 c3 c4 c17
                refine ih (i + 1) (by omega) false ⟨fun w => (by cases w), fun w => ?_⟩ hP
                exfalso
                obtain ⟨w1, w2, w3, w4⟩ := w i (by omega)
                clear hP ih hb
                first | (simp_all; done) | (have w5 := w4 (by assumption); first | exact absurd w5.1 (by assumption) | (have w6 := hC (i + 1) ((nI_ltI (by omega) (by omega)).mp w5.1); simp only [nI_clamp (show i + 1 < 2 ^ 31 by omega)] at *; simp_all; done))
              · have c17 := Decidable.not_not.mp (of_decide_eq_false c17)
                refine xw.steps 4 (fun _ => rfl) ?_
                refine xw.steps 1 (pc' := 76) (fun _ => rfl) ?_
                refine xw.steps 2 (fun _ => rfl) ?_
                refine xw.icmp rfl (fun c18 => ?_) (fun c18 => ?_)
                · have c18 := of_decide_eq_true c18
                  refine xw.steps 4 (fun _ => rfl) ?_
                  refine xw.steps 1 (pc' := 112) (fun _ => rfl) ?_
                  refine xw.steps 2 (fun _ => rfl) ?_
                  refine xw.icmp rfl (fun c19 => ?_) (fun c19 => ?_)
                  · have c19 := of_decide_eq_true c19
                    refine xw.steps 5 (fun _ => rfl) ?_
                    show xw z NK g 123 4 [(0, .ref (z + 52)), (1, .int 1), (2, .int ((nI i) + 1)), (3, .int (nu (nI i).toNatClampNeg))] [] S P
                    rw [nI_1]
                    refine xw.forget (lv := [(0, .ref (z + 52)), (1, .int (bI true)), (2, .int (nI (i + 1)))]) lk_123 (show [0, 1, 2].Nodup by decide) (show [0, 1, 2, 3].Nodup by decide) (List.forall_mem_cons.mpr ⟨rfl, List.forall_mem_cons.mpr ⟨rfl, List.forall_mem_cons.mpr ⟨rfl, fun _ h => absurd h List.not_mem_nil⟩⟩⟩) ?_
                    try simp only [ec, a1, a2, nI_1] at c2 c3 c4 c17 c18 c19
                    refine ih (i + 1) (by omega) true ⟨fun _ => sd_up (hb.mp c2) ?_, fun _ => rfl⟩ hP
                    refine ⟨c3, ?_, ?_, ?_⟩
                    all_goals (clear hP ih hb; intros; first | assumption | contradiction | (simp_all; done) | (refine ⟨?_, ?_⟩ <;> first | assumption | (have := hC (i + 1) ((nI_ltI (by omega) (by omega)).mp (by assumption)); rw [nI_clamp (by omega)] at *; simp_all; done)))
                  · have c19 := Decidable.not_not.mp (of_decide_eq_false c19)
                    refine xw.steps 4 (fun _ => rfl) ?_
                    refine xw.getf (o := 52) rfl q52 rfl ?_
                    refine xw.icmp rfl (fun c20 => ?_) (fun c20 => ?_)
                    · have c20 := Int32.not_lt.mpr (of_decide_eq_true c20)
                      refine xw.steps 4 (fun _ => rfl) ?_
                      show xw z NK g 123 4 [(0, .ref (z + 52)), (1, .int 0), (2, .int ((nI i) + 1)), (3, .int (nu (nI i).toNatClampNeg))] [] S P
                      rw [nI_1]
                      refine xw.forget (lv := [(0, .ref (z + 52)), (1, .int (bI false)), (2, .int (nI (i + 1)))]) lk_123 (show [0, 1, 2].Nodup by decide) (show [0, 1, 2, 3].Nodup by decide) (List.forall_mem_cons.mpr ⟨rfl, List.forall_mem_cons.mpr ⟨rfl, List.forall_mem_cons.mpr ⟨rfl, fun _ h => absurd h List.not_mem_nil⟩⟩⟩) ?_
                      try simp only [ec, a1, a2, nI_1] at c2 c3 c4 c17 c18 c19 c20
                      refine ih (i + 1) (by omega) false ⟨fun w => (by cases w), fun w => ?_⟩ hP
                      exfalso
                      obtain ⟨w1, w2, w3, w4⟩ := w i (by omega)
                      clear hP ih hb
                      first | (simp_all; done) | (have w5 := w4 (by assumption); first | exact absurd w5.1 (by assumption) | (have w6 := hC (i + 1) ((nI_ltI (by omega) (by omega)).mp w5.1); simp only [nI_clamp (show i + 1 < 2 ^ 31 by omega)] at *; simp_all; done))
                    · have c20 := Int32.not_le.mp (of_decide_eq_false c20)
                      refine xw.steps 1 (fun _ => rfl) ?_
                      refine xw.getf (o := 52) rfl q52 rfl ?_
                      refine xw.steps 3 (fun _ => rfl) ?_
                      refine xw.ald (o := 53) rfl q53 ((by show ¬ (nI i + 1 < 0 ∨ 400 ≤ (nI i + 1).toNatClampNeg); rw [nI_1]; exact nI_in (by have := (nI_ltI (a := i + 1) (b := c.length) (by omega) (by omega)).mp (by rw [← nI_1]; exact c20); omega) (by omega))) ?_
                      refine xw.steps 1 (fun _ => rfl) ?_
                      refine xw.icmp rfl (fun c21 => ?_) (fun c21 => ?_)
                      · have c21 := of_decide_eq_true c21
                        refine xw.steps 4 (fun _ => rfl) ?_
                        show xw z NK g 123 4 [(0, .ref (z + 52)), (1, .int 0), (2, .int ((nI i) + 1)), (3, .int (nu (nI i).toNatClampNeg))] [] S P
                        rw [nI_1]
                        refine xw.forget (lv := [(0, .ref (z + 52)), (1, .int (bI false)), (2, .int (nI (i + 1)))]) lk_123 (show [0, 1, 2].Nodup by decide) (show [0, 1, 2, 3].Nodup by decide) (List.forall_mem_cons.mpr ⟨rfl, List.forall_mem_cons.mpr ⟨rfl, List.forall_mem_cons.mpr ⟨rfl, fun _ h => absurd h List.not_mem_nil⟩⟩⟩) ?_
                        try simp only [ec, a1, a2, nI_1] at c2 c3 c4 c17 c18 c19 c20 c21
                        refine ih (i + 1) (by omega) false ⟨fun w => (by cases w), fun w => ?_⟩ hP
                        exfalso
                        obtain ⟨w1, w2, w3, w4⟩ := w i (by omega)
                        clear hP ih hb
                        first | (simp_all; done) | (have w5 := w4 (by assumption); first | exact absurd w5.1 (by assumption) | (have w6 := hC (i + 1) ((nI_ltI (by omega) (by omega)).mp w5.1); simp only [nI_clamp (show i + 1 < 2 ^ 31 by omega)] at *; simp_all; done))
                      · have c21 := Decidable.not_not.mp (of_decide_eq_false c21)
                        refine xw.steps 5 (fun _ => rfl) ?_
                        show xw z NK g 123 4 [(0, .ref (z + 52)), (1, .int 1), (2, .int ((nI i) + 1)), (3, .int (nu (nI i).toNatClampNeg))] [] S P
                        rw [nI_1]
                        refine xw.forget (lv := [(0, .ref (z + 52)), (1, .int (bI true)), (2, .int (nI (i + 1)))]) lk_123 (show [0, 1, 2].Nodup by decide) (show [0, 1, 2, 3].Nodup by decide) (List.forall_mem_cons.mpr ⟨rfl, List.forall_mem_cons.mpr ⟨rfl, List.forall_mem_cons.mpr ⟨rfl, fun _ h => absurd h List.not_mem_nil⟩⟩⟩) ?_
                        try simp only [ec, a1, a2, nI_1] at c2 c3 c4 c17 c18 c19 c20 c21
                        refine ih (i + 1) (by omega) true ⟨fun _ => sd_up (hb.mp c2) ?_, fun _ => rfl⟩ hP
                        refine ⟨c3, ?_, ?_, ?_⟩
                        all_goals (clear hP ih hb; intros; first | assumption | contradiction | (simp_all; done) | (refine ⟨?_, ?_⟩ <;> first | assumption | (have := hC (i + 1) ((nI_ltI (by omega) (by omega)).mp (by assumption)); rw [nI_clamp (by omega)] at *; simp_all; done)))
                · have c18 := of_decide_eq_false c18
                  refine xw.steps 2 (fun _ => rfl) ?_
                  refine xw.icmp rfl (fun c22 => ?_) (fun c22 => ?_)
                  · have c22 := of_decide_eq_true c22
                    refine xw.steps 4 (fun _ => rfl) ?_
                    refine xw.steps 1 (pc' := 112) (fun _ => rfl) ?_
                    refine xw.steps 2 (fun _ => rfl) ?_
                    refine xw.icmp rfl (fun c23 => ?_) (fun c23 => ?_)
                    · have c23 := of_decide_eq_true c23
                      refine xw.steps 5 (fun _ => rfl) ?_
                      show xw z NK g 123 4 [(0, .ref (z + 52)), (1, .int 1), (2, .int ((nI i) + 1)), (3, .int (nu (nI i).toNatClampNeg))] [] S P
                      rw [nI_1]
                      refine xw.forget (lv := [(0, .ref (z + 52)), (1, .int (bI true)), (2, .int (nI (i + 1)))]) lk_123 (show [0, 1, 2].Nodup by decide) (show [0, 1, 2, 3].Nodup by decide) (List.forall_mem_cons.mpr ⟨rfl, List.forall_mem_cons.mpr ⟨rfl, List.forall_mem_cons.mpr ⟨rfl, fun _ h => absurd h List.not_mem_nil⟩⟩⟩) ?_
                      try simp only [ec, a1, a2, nI_1] at c2 c3 c4 c17 c18 c22 c23
                      refine ih (i + 1) (by omega) true ⟨fun _ => sd_up (hb.mp c2) ?_, fun _ => rfl⟩ hP
                      refine ⟨c3, ?_, ?_, ?_⟩
                      all_goals (clear hP ih hb; intros; first | assumption | contradiction | (simp_all; done) | (refine ⟨?_, ?_⟩ <;> first | assumption | (have := hC (i + 1) ((nI_ltI (by omega) (by omega)).mp (by assumption)); rw [nI_clamp (by omega)] at *; simp_all; done)))
                    · have c23 := Decidable.not_not.mp (of_decide_eq_false c23)
                      refine xw.steps 4 (fun _ => rfl) ?_
                      refine xw.getf (o := 52) rfl q52 rfl ?_
                      refine xw.icmp rfl (fun c24 => ?_) (fun c24 => ?_)
                      · have c24 := Int32.not_lt.mpr (of_decide_eq_true c24)
                        refine xw.steps 4 (fun _ => rfl) ?_
                        show xw z NK g 123 4 [(0, .ref (z + 52)), (1, .int 0), (2, .int ((nI i) + 1)), (3, .int (nu (nI i).toNatClampNeg))] [] S P
                        rw [nI_1]
                        refine xw.forget (lv := [(0, .ref (z + 52)), (1, .int (bI false)), (2, .int (nI (i + 1)))]) lk_123 (show [0, 1, 2].Nodup by decide) (show [0, 1, 2, 3].Nodup by decide) (List.forall_mem_cons.mpr ⟨rfl, List.forall_mem_cons.mpr ⟨rfl, List.forall_mem_cons.mpr ⟨rfl, fun _ h => absurd h List.not_mem_nil⟩⟩⟩) ?_
                        try simp only [ec, a1, a2, nI_1] at c2 c3 c4 c17 c18 c22 c23 c24
                        refine ih (i + 1) (by omega) false ⟨fun w => (by cases w), fun w => ?_⟩ hP
                        exfalso
                        obtain ⟨w1, w2, w3, w4⟩ := w i (by omega)
                        clear hP ih hb
                        first | (simp_all; done) | (have w5 := w4 (by assumption); first | exact absurd w5.1 (by assumption) | (have w6 := hC (i + 1) ((nI_ltI (by omega) (by omega)).mp w5.1); simp only [nI_clamp (show i + 1 < 2 ^ 31 by omega)] at *; simp_all; done))
                      · have c24 := Int32.not_le.mp (of_decide_eq_false c24)
                        refine xw.steps 1 (fun _ => rfl) ?_
                        refine xw.getf (o := 52) rfl q52 rfl ?_
                        refine xw.steps 3 (fun _ => rfl) ?_
                        refine xw.ald (o := 53) rfl q53 ((by show ¬ (nI i + 1 < 0 ∨ 400 ≤ (nI i + 1).toNatClampNeg); rw [nI_1]; exact nI_in (by have := (nI_ltI (a := i + 1) (b := c.length) (by omega) (by omega)).mp (by rw [← nI_1]; exact c24); omega) (by omega))) ?_
                        refine xw.steps 1 (fun _ => rfl) ?_
                        refine xw.icmp rfl (fun c25 => ?_) (fun c25 => ?_)
                        · have c25 := of_decide_eq_true c25
                          refine xw.steps 4 (fun _ => rfl) ?_
                          show xw z NK g 123 4 [(0, .ref (z + 52)), (1, .int 0), (2, .int ((nI i) + 1)), (3, .int (nu (nI i).toNatClampNeg))] [] S P
                          rw [nI_1]
                          refine xw.forget (lv := [(0, .ref (z + 52)), (1, .int (bI false)), (2, .int (nI (i + 1)))]) lk_123 (show [0, 1, 2].Nodup by decide) (show [0, 1, 2, 3].Nodup by decide) (List.forall_mem_cons.mpr ⟨rfl, List.forall_mem_cons.mpr ⟨rfl, List.forall_mem_cons.mpr ⟨rfl, fun _ h => absurd h List.not_mem_nil⟩⟩⟩) ?_
                          try simp only [ec, a1, a2, nI_1] at c2 c3 c4 c17 c18 c22 c23 c24 c25
                          refine ih (i + 1) (by omega) false ⟨fun w => (by cases w), fun w => ?_⟩ hP
                          exfalso
                          obtain ⟨w1, w2, w3, w4⟩ := w i (by omega)
                          clear hP ih hb
                          first | (simp_all; done) | (have w5 := w4 (by assumption); first | exact absurd w5.1 (by assumption) | (have w6 := hC (i + 1) ((nI_ltI (by omega) (by omega)).mp w5.1); simp only [nI_clamp (show i + 1 < 2 ^ 31 by omega)] at *; simp_all; done))
                        · have c25 := Decidable.not_not.mp (of_decide_eq_false c25)
                          refine xw.steps 5 (fun _ => rfl) ?_
                          show xw z NK g 123 4 [(0, .ref (z + 52)), (1, .int 1), (2, .int ((nI i) + 1)), (3, .int (nu (nI i).toNatClampNeg))] [] S P
                          rw [nI_1]
                          refine xw.forget (lv := [(0, .ref (z + 52)), (1, .int (bI true)), (2, .int (nI (i + 1)))]) lk_123 (show [0, 1, 2].Nodup by decide) (show [0, 1, 2, 3].Nodup by decide) (List.forall_mem_cons.mpr ⟨rfl, List.forall_mem_cons.mpr ⟨rfl, List.forall_mem_cons.mpr ⟨rfl, fun _ h => absurd h List.not_mem_nil⟩⟩⟩) ?_
                          try simp only [ec, a1, a2, nI_1] at c2 c3 c4 c17 c18 c22 c23 c24 c25
                          refine ih (i + 1) (by omega) true ⟨fun _ => sd_up (hb.mp c2) ?_, fun _ => rfl⟩ hP
                          refine ⟨c3, ?_, ?_, ?_⟩
                          all_goals (clear hP ih hb; intros; first | assumption | contradiction | (simp_all; done) | (refine ⟨?_, ?_⟩ <;> first | assumption | (have := hC (i + 1) ((nI_ltI (by omega) (by omega)).mp (by assumption)); rw [nI_clamp (by omega)] at *; simp_all; done)))
                  · have c22 := of_decide_eq_false c22
                    refine xw.steps 2 (fun _ => rfl) ?_
                    refine xw.getf (o := 52) rfl q52 rfl ?_
                    refine xw.steps 1 (fun _ => rfl) ?_
                    refine xw.ald (o := 54) rfl q54 (nI_in (by omega) (by omega)) ?_
                    show xw z NK g 123 95 [(0, .ref (z + 52)), (1, .int 1), (2, .int (nI i)), (3, .int (nu (nI i).toNatClampNeg))] [.int (ag (nI i).toNatClampNeg), .ref (z + 52)] S P
                    refine xw.callO (o := 52) rfl rfl rfl q52 rfl rfl (c_place hM hC hn ?_)
                    show xw z NK g 123 98 [(0, .ref (z + 52)), (1, .int 1), (2, .int (nI i)), (3, .int (nu (nI i).toNatClampNeg))] [.int (oI (plc c (ag (nI i).toNatClampNeg)))] S P
                    refine xw.steps 1 (fun _ => rfl) ?_
                    refine xw.icmp rfl (fun c26 => ?_) (fun c26 => ?_)
                    · have c26 := of_decide_eq_true c26
                      refine xw.steps 3 (fun _ => rfl) ?_
                      refine xw.steps 1 (pc' := 145) (fun _ => rfl) ?_
                      refine xw.steps 4 (fun _ => rfl) ?_
                      show xw z NK g 123 4 [(0, .ref (z + 52)), (1, .int 0), (2, .int ((nI i) + 1)), (3, .int (nu (nI i).toNatClampNeg))] [] S P
                      rw [nI_1]
                      refine xw.forget (lv := [(0, .ref (z + 52)), (1, .int (bI false)), (2, .int (nI (i + 1)))]) lk_123 (show [0, 1, 2].Nodup by decide) (show [0, 1, 2, 3].Nodup by decide) (List.forall_mem_cons.mpr ⟨rfl, List.forall_mem_cons.mpr ⟨rfl, List.forall_mem_cons.mpr ⟨rfl, fun _ h => absurd h List.not_mem_nil⟩⟩⟩) ?_
                      try simp only [ec, a1, a2, nI_1] at c2 c3 c4 c17 c18 c22 c26
                      refine ih (i + 1) (by omega) false ⟨fun w => (by cases w), fun w => ?_⟩ hP
                      exfalso
                      obtain ⟨w1, w2, w3, w4⟩ := w i (by omega)
                      clear hP ih hb
                      first | (simp_all; done) | (have w5 := w4 (by assumption); first | exact absurd w5.1 (by assumption) | (have w6 := hC (i + 1) ((nI_ltI (by omega) (by omega)).mp w5.1); simp only [nI_clamp (show i + 1 < 2 ^ 31 by omega)] at *; simp_all; done))
                    · have c26 := of_decide_eq_false c26
                      refine xw.steps 4 (fun _ => rfl) ?_
                      refine xw.steps 1 (pc' := 112) (fun _ => rfl) ?_
                      refine xw.steps 2 (fun _ => rfl) ?_
                      refine xw.icmp rfl (fun c27 => ?_) (fun c27 => ?_)
                      · have c27 := of_decide_eq_true c27
                        refine xw.steps 5 (fun _ => rfl) ?_
                        show xw z NK g 123 4 [(0, .ref (z + 52)), (1, .int 1), (2, .int ((nI i) + 1)), (3, .int (nu (nI i).toNatClampNeg))] [] S P
                        rw [nI_1]
                        refine xw.forget (lv := [(0, .ref (z + 52)), (1, .int (bI true)), (2, .int (nI (i + 1)))]) lk_123 (show [0, 1, 2].Nodup by decide) (show [0, 1, 2, 3].Nodup by decide) (List.forall_mem_cons.mpr ⟨rfl, List.forall_mem_cons.mpr ⟨rfl, List.forall_mem_cons.mpr ⟨rfl, fun _ h => absurd h List.not_mem_nil⟩⟩⟩) ?_
                        try simp only [ec, a1, a2, nI_1] at c2 c3 c4 c17 c18 c22 c26 c27
                        refine ih (i + 1) (by omega) true ⟨fun _ => sd_up (hb.mp c2) ?_, fun _ => rfl⟩ hP
                        refine ⟨c3, ?_, ?_, ?_⟩
                        all_goals (clear hP ih hb; intros; first | assumption | contradiction | (simp_all; done) | (refine ⟨?_, ?_⟩ <;> first | assumption | (have := hC (i + 1) ((nI_ltI (by omega) (by omega)).mp (by assumption)); rw [nI_clamp (by omega)] at *; simp_all; done)))
                      · have c27 := Decidable.not_not.mp (of_decide_eq_false c27)
                        refine xw.steps 4 (fun _ => rfl) ?_
                        refine xw.getf (o := 52) rfl q52 rfl ?_
                        refine xw.icmp rfl (fun c28 => ?_) (fun c28 => ?_)
                        · have c28 := Int32.not_lt.mpr (of_decide_eq_true c28)
                          refine xw.steps 4 (fun _ => rfl) ?_
                          show xw z NK g 123 4 [(0, .ref (z + 52)), (1, .int 0), (2, .int ((nI i) + 1)), (3, .int (nu (nI i).toNatClampNeg))] [] S P
                          rw [nI_1]
                          refine xw.forget (lv := [(0, .ref (z + 52)), (1, .int (bI false)), (2, .int (nI (i + 1)))]) lk_123 (show [0, 1, 2].Nodup by decide) (show [0, 1, 2, 3].Nodup by decide) (List.forall_mem_cons.mpr ⟨rfl, List.forall_mem_cons.mpr ⟨rfl, List.forall_mem_cons.mpr ⟨rfl, fun _ h => absurd h List.not_mem_nil⟩⟩⟩) ?_
                          try simp only [ec, a1, a2, nI_1] at c2 c3 c4 c17 c18 c22 c26 c27 c28
                          refine ih (i + 1) (by omega) false ⟨fun w => (by cases w), fun w => ?_⟩ hP
                          exfalso
                          obtain ⟨w1, w2, w3, w4⟩ := w i (by omega)
                          clear hP ih hb
                          first | (simp_all; done) | (have w5 := w4 (by assumption); first | exact absurd w5.1 (by assumption) | (have w6 := hC (i + 1) ((nI_ltI (by omega) (by omega)).mp w5.1); simp only [nI_clamp (show i + 1 < 2 ^ 31 by omega)] at *; simp_all; done))
                        · have c28 := Int32.not_le.mp (of_decide_eq_false c28)
                          refine xw.steps 1 (fun _ => rfl) ?_
                          refine xw.getf (o := 52) rfl q52 rfl ?_
                          refine xw.steps 3 (fun _ => rfl) ?_
                          refine xw.ald (o := 53) rfl q53 ((by show ¬ (nI i + 1 < 0 ∨ 400 ≤ (nI i + 1).toNatClampNeg); rw [nI_1]; exact nI_in (by have := (nI_ltI (a := i + 1) (b := c.length) (by omega) (by omega)).mp (by rw [← nI_1]; exact c28); omega) (by omega))) ?_
                          refine xw.steps 1 (fun _ => rfl) ?_
                          refine xw.icmp rfl (fun c29 => ?_) (fun c29 => ?_)
                          · have c29 := of_decide_eq_true c29
                            refine xw.steps 4 (fun _ => rfl) ?_
                            show xw z NK g 123 4 [(0, .ref (z + 52)), (1, .int 0), (2, .int ((nI i) + 1)), (3, .int (nu (nI i).toNatClampNeg))] [] S P
                            rw [nI_1]
                            refine xw.forget (lv := [(0, .ref (z + 52)), (1, .int (bI false)), (2, .int (nI (i + 1)))]) lk_123 (show [0, 1, 2].Nodup by decide) (show [0, 1, 2, 3].Nodup by decide) (List.forall_mem_cons.mpr ⟨rfl, List.forall_mem_cons.mpr ⟨rfl, List.forall_mem_cons.mpr ⟨rfl, fun _ h => absurd h List.not_mem_nil⟩⟩⟩) ?_
                            try simp only [ec, a1, a2, nI_1] at c2 c3 c4 c17 c18 c22 c26 c27 c28 c29
                            refine ih (i + 1) (by omega) false ⟨fun w => (by cases w), fun w => ?_⟩ hP
                            exfalso
                            obtain ⟨w1, w2, w3, w4⟩ := w i (by omega)
                            clear hP ih hb
                            first | (simp_all; done) | (have w5 := w4 (by assumption); first | exact absurd w5.1 (by assumption) | (have w6 := hC (i + 1) ((nI_ltI (by omega) (by omega)).mp w5.1); simp only [nI_clamp (show i + 1 < 2 ^ 31 by omega)] at *; simp_all; done))
                          · have c29 := Decidable.not_not.mp (of_decide_eq_false c29)
                            refine xw.steps 5 (fun _ => rfl) ?_
                            show xw z NK g 123 4 [(0, .ref (z + 52)), (1, .int 1), (2, .int ((nI i) + 1)), (3, .int (nu (nI i).toNatClampNeg))] [] S P
                            rw [nI_1]
                            refine xw.forget (lv := [(0, .ref (z + 52)), (1, .int (bI true)), (2, .int (nI (i + 1)))]) lk_123 (show [0, 1, 2].Nodup by decide) (show [0, 1, 2, 3].Nodup by decide) (List.forall_mem_cons.mpr ⟨rfl, List.forall_mem_cons.mpr ⟨rfl, List.forall_mem_cons.mpr ⟨rfl, fun _ h => absurd h List.not_mem_nil⟩⟩⟩) ?_
                            try simp only [ec, a1, a2, nI_1] at c2 c3 c4 c17 c18 c22 c26 c27 c28 c29
                            refine ih (i + 1) (by omega) true ⟨fun _ => sd_up (hb.mp c2) ?_, fun _ => rfl⟩ hP
                            refine ⟨c3, ?_, ?_, ?_⟩
                            all_goals (clear hP ih hb; intros; first | assumption | contradiction | (simp_all; done) | (refine ⟨?_, ?_⟩ <;> first | assumption | (have := hC (i + 1) ((nI_ltI (by omega) (by omega)).mp (by assumption)); rw [nI_clamp (by omega)] at *; simp_all; done)))
  refine xw.steps 4 (fun _ => rfl) ?_
  show xw z NK g 123 4 [(0, .ref (z + 52)), (1, .int 1), (2, .int 0)] [] S P
  exact loop c.length 0 (by omega) true ⟨fun _ q hq => by omega, fun _ => rfl⟩ hP
end MO3
