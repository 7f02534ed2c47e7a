/-! MACHINE: execute (walks by wip/gen34.py) -/
def m_setat (m : MM) (x : Int32) : MM := (m.1, m.2.1, m.2.2.1, x, m.2.2.2.2)
def m_step (pn pa : List Int32) (m : MM) : MM :=
  if nAt pn m.2.2.2.1 < 7 then m_move (m_setat m (m.2.2.2.1 + 1)) (nAt pn m.2.2.2.1) (nAt pa m.2.2.2.1)
  else if nAt pn m.2.2.2.1 < 20 then m_work (m_setat m (m.2.2.2.1 + 1)) (nAt pn m.2.2.2.1) (nAt pa m.2.2.2.1)
  else if m_jumps (nAt pn m.2.2.2.1) m.2.1 m.2.2.1 = true then m_setat m (nAt pa m.2.2.2.1) else m_setat m (m.2.2.2.1 + 1)
def m_exec (pn pa : List Int32) : Nat → MM → MM
  | 0, m => m
  | d + 1, m => if m.2.2.2.2.1 = -1 then m_exec pn pa d (m_step pn pa m) else m
section XE
variable {z : Nat} {NK : List Nat} {g : mx_G} {S : xS} {P : Option Value → xS → Prop} {pn pa pp sl : List Int32} {a b pq sa ev fl : Int32} {L V : Nat → Int32}
set_option maxHeartbeats 8000000 in
/-- RowCode$Machine.execute(LRowCode$Program;I)I -/
theorem c_execute (h44 : S 44 = some (.inr (.inr (5, [.ref (z + 45), .ref (z + 46)])))) (hG : gS z S pn pa pp) {fu : Int32} {B : Nat} (hB : (fu + 2) * (nI pn.length + 1) = nI B) (hB2 : B < 2 ^ 31) (hP : P (some (.int (m_exec pn pa B (sl, a, b, 0, -1, 0, fu, L, V)).2.2.2.2.1)) (mput z S (m_exec pn pa B (sl, a, b, 0, -1, 0, fu, L, V)))) : xw z NK g 41 0 [(0, .ref (z + 47)), (1, .ref (z + 37)), (2, .int fu)] [] (mput z S (sl, a, b, pq, sa, ev, fl, L, V)) P := by
  obtain ⟨h37, h38, h40, h42⟩ := id hG
  have loop : ∀ (d i : Nat) (hi : i + d = B) (sl2 : List Int32) (a2 : Int32) (b2 : Int32) (pq2 : Int32) (sa2 : Int32) (ev2 : Int32) (fl2 : Int32) (L2 : Nat → Int32) (V2 : Nat → Int32) (hP : P (some (.int (m_exec pn pa d (sl2, a2, b2, pq2, sa2, ev2, fl2, L2, V2)).2.2.2.2.1)) (mput z S (m_exec pn pa d (sl2, a2, b2, pq2, sa2, ev2, fl2, L2, V2)))), xw z NK g 41 34 [(0, .ref (z + 47)), (1, .ref (z + 37)), (2, .int fu), (3, .int (nI B)), (4, .int (nI i))] [] (mput z S (sl2, a2, b2, pq2, sa2, ev2, fl2, L2, V2)) P := by
    intro d
    induction d with
    | zero =>
      intro i hi sl2 a2 b2 pq2 sa2 ev2 fl2 L2 V2 hP
      refine xw.steps 2 (fun _ => rfl) ?_
      refine xw.icmp rfl (fun c1 => ?_) (fun c1 => ?_)
      · have c1 := Int32.not_lt.mpr (of_decide_eq_true c1)
        refine xw.steps 1 (fun _ => rfl) ?_
        refine xw.getf (o := 47) rfl (mput_47 _ _ _) rfl ?_
        refine xw.ret rfl (fun _ => rfl) ?_
        show P (some (.int sa2)) (mput z S (sl2, a2, b2, pq2, sa2, ev2, fl2, L2, V2))
        exact hP
      · have c1 := Int32.not_le.mp (of_decide_eq_false c1)
        show xw z NK g 41 40 [(0, .ref (z + 47)), (1, .ref (z + 37)), (2, .int fu), (3, .int (nI B)), (4, .int (nI i))] [] (mput z S (sl2, a2, b2, pq2, sa2, ev2, fl2, L2, V2)) P
        exact absurd c1 (nI_nlt (by omega) (by omega))
    | succ d ih =>
      intro i hi sl2 a2 b2 pq2 sa2 ev2 fl2 L2 V2 hP
      refine xw.steps 2 (fun _ => rfl) ?_
      refine xw.icmp rfl (fun c1 => ?_) (fun c1 => ?_)
      · have c1 := Int32.not_lt.mpr (of_decide_eq_true c1)
        show xw z NK g 41 135 [(0, .ref (z + 47)), (1, .ref (z + 37)), (2, .int fu), (3, .int (nI B)), (4, .int (nI i))] [] (mput z S (sl2, a2, b2, pq2, sa2, ev2, fl2, L2, V2)) P
        exact absurd (nI_lt (by omega) (by omega)) c1
      · have c1 := Int32.not_le.mp (of_decide_eq_false c1)
        refine xw.steps 1 (fun _ => rfl) ?_
        refine xw.getf (o := 47) rfl (mput_47 _ _ _) rfl ?_
        refine xw.steps 1 (fun _ => rfl) ?_
        refine xw.icmp rfl (fun c2 => ?_) (fun c2 => ?_)
        · have c2 := of_decide_eq_true c2
          show xw z NK g 41 135 [(0, .ref (z + 47)), (1, .ref (z + 37)), (2, .int fu), (3, .int (nI B)), (4, .int (nI i))] [] (mput z S (sl2, a2, b2, pq2, sa2, ev2, fl2, L2, V2)) P
          refine xw.steps 1 (fun _ => rfl) ?_
          refine xw.getf (o := 47) rfl (mput_47 _ _ _) rfl ?_
          refine xw.ret rfl (fun _ => rfl) ?_
          show P (some (.int sa2)) (mput z S (sl2, a2, b2, pq2, sa2, ev2, fl2, L2, V2))
          have hQ : P (some (.int (m_exec pn pa (d + 1) (sl2, a2, b2, pq2, sa2, ev2, fl2, L2, V2)).2.2.2.2.1)) (mput z S (m_exec pn pa (d + 1) (sl2, a2, b2, pq2, sa2, ev2, fl2, L2, V2))) := hP
          rw [show m_exec pn pa (d + 1) (sl2, a2, b2, pq2, sa2, ev2, fl2, L2, V2) = (sl2, a2, b2, pq2, sa2, ev2, fl2, L2, V2) from if_neg c2] at hQ
          exact hQ
        · have c2 := Decidable.not_not.mp (of_decide_eq_false c2)
          refine xw.steps 2 (fun _ => rfl) ?_
          refine xw.getf (o := 47) rfl (mput_47 _ _ _) rfl ?_
          show xw z NK g 41 53 [(0, .ref (z + 47)), (1, .ref (z + 37)), (2, .int fu), (3, .int (nI B)), (4, .int (nI i))] [.int pq2, .ref (z + 37)] (mput z S (sl2, a2, b2, pq2, sa2, ev2, fl2, L2, V2)) P
          refine xw.callO (o := 37) rfl rfl rfl ((mput_ne _ _ _ (by decide)).trans h37) rfl rfl (c_Program_numberAt ⟨((mput_ne _ _ _ (by decide)).trans h37), ((mput_ne _ _ _ (by decide)).trans h38), ((mput_ne _ _ _ (by decide)).trans h40), ((mput_ne _ _ _ (by decide)).trans h42)⟩ ?_)
          show xw z NK g 41 56 [(0, .ref (z + 47)), (1, .ref (z + 37)), (2, .int fu), (3, .int (nI B)), (4, .int (nI i))] [.int (nAt pn pq2)] (mput z S (sl2, a2, b2, pq2, sa2, ev2, fl2, L2, V2)) P
          refine xw.steps 3 (fun _ => rfl) ?_
          refine xw.getf (o := 47) rfl (mput_47 _ _ _) rfl ?_
          show xw z NK g 41 63 [(0, .ref (z + 47)), (1, .ref (z + 37)), (2, .int fu), (3, .int (nI B)), (4, .int (nI i)), (5, .int (nAt pn pq2))] [.int pq2, .ref (z + 37)] (mput z S (sl2, a2, b2, pq2, sa2, ev2, fl2, L2, V2)) P
          refine xw.callO (o := 37) rfl rfl rfl ((mput_ne _ _ _ (by decide)).trans h37) rfl rfl (c_Program_argumentAt ⟨((mput_ne _ _ _ (by decide)).trans h37), ((mput_ne _ _ _ (by decide)).trans h38), ((mput_ne _ _ _ (by decide)).trans h40), ((mput_ne _ _ _ (by decide)).trans h42)⟩ ?_)
          show xw z NK g 41 66 [(0, .ref (z + 47)), (1, .ref (z + 37)), (2, .int fu), (3, .int (nI B)), (4, .int (nI i)), (5, .int (nAt pn pq2))] [.int (nAt pa pq2)] (mput z S (sl2, a2, b2, pq2, sa2, ev2, fl2, L2, V2)) P
          refine xw.steps 3 (fun _ => rfl) ?_
          refine xw.getf (o := 47) rfl (mput_47 _ _ _) rfl ?_
          refine xw.steps 2 (fun _ => rfl) ?_
          refine xw.putf (o := 47) (fs' := [.ref (z + 44), .ref (z + 48), .int a2, .int b2, .int (pq2 + 1), .int sa2, .int ev2, .int fl2]) rfl (mput_47 _ _ _) (Nat.le_of_ble_eq_true rfl) rfl rfl rfl ?_
          show xw z NK g 41 78 [(0, .ref (z + 47)), (1, .ref (z + 37)), (2, .int fu), (3, .int (nI B)), (4, .int (nI i)), (5, .int (nAt pn pq2)), (6, .int (nAt pa pq2))] [] (xu (mput z S (sl2, a2, b2, pq2, sa2, ev2, fl2, L2, V2)) 47 (.inr (.inr (4, [.ref (z + 44), .ref (z + 48), .int a2, .int b2, .int (pq2 + 1), .int sa2, .int ev2, .int fl2])))) P
          rw [mput_s47]
          refine xw.steps 2 (fun _ => rfl) ?_
          refine xw.icmp rfl (fun c3 => ?_) (fun c3 => ?_)
          · have c3 := Int32.not_lt.mpr (of_decide_eq_true c3)
            refine xw.steps 2 (fun _ => rfl) ?_
            refine xw.icmp rfl (fun c4 => ?_) (fun c4 => ?_)
            · have c4 := Int32.not_lt.mpr (of_decide_eq_true c4)
              refine xw.steps 2 (fun _ => rfl) ?_
              show xw z NK g 41 117 [(0, .ref (z + 47)), (1, .ref (z + 37)), (2, .int fu), (3, .int (nI B)), (4, .int (nI i)), (5, .int (nAt pn pq2)), (6, .int (nAt pa pq2))] [.int (nAt pn pq2), .ref (z + 47)] (mput z S (sl2, a2, b2, (pq2 + 1), sa2, ev2, fl2, L2, V2)) P
              refine xw.callO (o := 47) rfl rfl rfl (mput_47 _ _ _) rfl rfl (c_jumps ?_)
              show xw z NK g 41 120 [(0, .ref (z + 47)), (1, .ref (z + 37)), (2, .int fu), (3, .int (nI B)), (4, .int (nI i)), (5, .int (nAt pn pq2)), (6, .int (nAt pa pq2))] [.int (bI (m_jumps (nAt pn pq2) a2 b2))] (mput z S (sl2, a2, b2, (pq2 + 1), sa2, ev2, fl2, L2, V2)) P
              refine xw.if_ rfl (fun c5 => ?_) (fun c5 => ?_)
              · have c5 := bI_eq0 (of_decide_eq_true c5)
                refine xw.steps 2 (fun _ => rfl) ?_
                show xw z NK g 41 34 [(0, .ref (z + 47)), (1, .ref (z + 37)), (2, .int fu), (3, .int (nI B)), (4, .int ((nI i) + 1)), (5, .int (nAt pn pq2)), (6, .int (nAt pa pq2))] [] (mput z S (sl2, a2, b2, (pq2 + 1), sa2, ev2, fl2, L2, V2)) P
                rw [nI_1]
                refine xw.forget (lv := [(0, .ref (z + 47)), (1, .ref (z + 37)), (2, .int fu), (3, .int (nI B)), (4, .int (nI (i + 1)))]) lk_41 (show [0, 1, 2, 3, 4].Nodup by decide) (show [0, 1, 2, 3, 4, 5, 6].Nodup by decide) (List.forall_mem_cons.mpr ⟨rfl, List.forall_mem_cons.mpr ⟨rfl, List.forall_mem_cons.mpr ⟨rfl, List.forall_mem_cons.mpr ⟨rfl, List.forall_mem_cons.mpr ⟨rfl, fun _ h => absurd h List.not_mem_nil⟩⟩⟩⟩⟩) ?_
                exact ih (i + 1) (by omega) sl2 a2 b2 (pq2 + 1) sa2 ev2 fl2 L2 V2 (by have hQ : P (some (.int (m_exec pn pa (d + 1) (sl2, a2, b2, pq2, sa2, ev2, fl2, L2, V2)).2.2.2.2.1)) (mput z S (m_exec pn pa (d + 1) (sl2, a2, b2, pq2, sa2, ev2, fl2, L2, V2))) := hP; rw [show m_exec pn pa (d + 1) (sl2, a2, b2, pq2, sa2, ev2, fl2, L2, V2) = m_exec pn pa d (m_step pn pa (sl2, a2, b2, pq2, sa2, ev2, fl2, L2, V2)) from if_pos c2, (show m_step pn pa (sl2, a2, b2, pq2, sa2, ev2, fl2, L2, V2) = (sl2, a2, b2, (pq2 + 1), sa2, ev2, fl2, L2, V2) from by first | (simp [m_step, m_setat, c3, c4, c5]; done) | (simp_all [m_step, m_setat]; done))] at hQ; exact hQ)
              · have c5 := bI_ne0 (of_decide_eq_false c5)
                refine xw.steps 2 (fun _ => rfl) ?_
                refine xw.putf (o := 47) (fs' := [.ref (z + 44), .ref (z + 48), .int a2, .int b2, .int (nAt pa pq2), .int sa2, .int ev2, .int fl2]) rfl (mput_47 _ _ _) (Nat.le_of_ble_eq_true rfl) rfl rfl rfl ?_
                show xw z NK g 41 129 [(0, .ref (z + 47)), (1, .ref (z + 37)), (2, .int fu), (3, .int (nI B)), (4, .int (nI i)), (5, .int (nAt pn pq2)), (6, .int (nAt pa pq2))] [] (xu (mput z S (sl2, a2, b2, (pq2 + 1), sa2, ev2, fl2, L2, V2)) 47 (.inr (.inr (4, [.ref (z + 44), .ref (z + 48), .int a2, .int b2, .int (nAt pa pq2), .int sa2, .int ev2, .int fl2])))) P
                rw [mput_s47]
                refine xw.steps 2 (fun _ => rfl) ?_
                show xw z NK g 41 34 [(0, .ref (z + 47)), (1, .ref (z + 37)), (2, .int fu), (3, .int (nI B)), (4, .int ((nI i) + 1)), (5, .int (nAt pn pq2)), (6, .int (nAt pa pq2))] [] (mput z S (sl2, a2, b2, (nAt pa pq2), sa2, ev2, fl2, L2, V2)) P
                rw [nI_1]
                refine xw.forget (lv := [(0, .ref (z + 47)), (1, .ref (z + 37)), (2, .int fu), (3, .int (nI B)), (4, .int (nI (i + 1)))]) lk_41 (show [0, 1, 2, 3, 4].Nodup by decide) (show [0, 1, 2, 3, 4, 5, 6].Nodup by decide) (List.forall_mem_cons.mpr ⟨rfl, List.forall_mem_cons.mpr ⟨rfl, List.forall_mem_cons.mpr ⟨rfl, List.forall_mem_cons.mpr ⟨rfl, List.forall_mem_cons.mpr ⟨rfl, fun _ h => absurd h List.not_mem_nil⟩⟩⟩⟩⟩) ?_
                exact ih (i + 1) (by omega) sl2 a2 b2 (nAt pa pq2) sa2 ev2 fl2 L2 V2 (by have hQ : P (some (.int (m_exec pn pa (d + 1) (sl2, a2, b2, pq2, sa2, ev2, fl2, L2, V2)).2.2.2.2.1)) (mput z S (m_exec pn pa (d + 1) (sl2, a2, b2, pq2, sa2, ev2, fl2, L2, V2))) := hP; rw [show m_exec pn pa (d + 1) (sl2, a2, b2, pq2, sa2, ev2, fl2, L2, V2) = m_exec pn pa d (m_step pn pa (sl2, a2, b2, pq2, sa2, ev2, fl2, L2, V2)) from if_pos c2, (show m_step pn pa (sl2, a2, b2, pq2, sa2, ev2, fl2, L2, V2) = (sl2, a2, b2, (nAt pa pq2), sa2, ev2, fl2, L2, V2) from by first | (simp [m_step, m_setat, c3, c4, c5]; done) | (simp_all [m_step, m_setat]; done))] at hQ; exact hQ)
            · have c4 := Int32.not_le.mp (of_decide_eq_false c4)
              refine xw.steps 3 (fun _ => rfl) ?_
              show xw z NK g 41 108 [(0, .ref (z + 47)), (1, .ref (z + 37)), (2, .int fu), (3, .int (nI B)), (4, .int (nI i)), (5, .int (nAt pn pq2)), (6, .int (nAt pa pq2))] [.int (nAt pa pq2), .int (nAt pn pq2), .ref (z + 47)] (mput z S (sl2, a2, b2, (pq2 + 1), sa2, ev2, fl2, L2, V2)) P
              refine xw.callO (o := 47) rfl rfl rfl (mput_47 _ _ _) rfl rfl (c_work h44 ?_)
              show xw z NK g 41 111 [(0, .ref (z + 47)), (1, .ref (z + 37)), (2, .int fu), (3, .int (nI B)), (4, .int (nI i)), (5, .int (nAt pn pq2)), (6, .int (nAt pa pq2))] [] (mput z S (m_work (sl2, a2, b2, (pq2 + 1), sa2, ev2, fl2, L2, V2) (nAt pn pq2) (nAt pa pq2))) P
              refine xw.steps 3 (fun _ => rfl) ?_
              show xw z NK g 41 34 [(0, .ref (z + 47)), (1, .ref (z + 37)), (2, .int fu), (3, .int (nI B)), (4, .int ((nI i) + 1)), (5, .int (nAt pn pq2)), (6, .int (nAt pa pq2))] [] (mput z S (m_work (sl2, a2, b2, (pq2 + 1), sa2, ev2, fl2, L2, V2) (nAt pn pq2) (nAt pa pq2))) P
              rw [nI_1]
              refine xw.forget (lv := [(0, .ref (z + 47)), (1, .ref (z + 37)), (2, .int fu), (3, .int (nI B)), (4, .int (nI (i + 1)))]) lk_41 (show [0, 1, 2, 3, 4].Nodup by decide) (show [0, 1, 2, 3, 4, 5, 6].Nodup by decide) (List.forall_mem_cons.mpr ⟨rfl, List.forall_mem_cons.mpr ⟨rfl, List.forall_mem_cons.mpr ⟨rfl, List.forall_mem_cons.mpr ⟨rfl, List.forall_mem_cons.mpr ⟨rfl, fun _ h => absurd h List.not_mem_nil⟩⟩⟩⟩⟩) ?_
              exact ih (i + 1) (by omega) (m_work (sl2, a2, b2, (pq2 + 1), sa2, ev2, fl2, L2, V2) (nAt pn pq2) (nAt pa pq2)).1 (m_work (sl2, a2, b2, (pq2 + 1), sa2, ev2, fl2, L2, V2) (nAt pn pq2) (nAt pa pq2)).2.1 (m_work (sl2, a2, b2, (pq2 + 1), sa2, ev2, fl2, L2, V2) (nAt pn pq2) (nAt pa pq2)).2.2.1 (m_work (sl2, a2, b2, (pq2 + 1), sa2, ev2, fl2, L2, V2) (nAt pn pq2) (nAt pa pq2)).2.2.2.1 (m_work (sl2, a2, b2, (pq2 + 1), sa2, ev2, fl2, L2, V2) (nAt pn pq2) (nAt pa pq2)).2.2.2.2.1 (m_work (sl2, a2, b2, (pq2 + 1), sa2, ev2, fl2, L2, V2) (nAt pn pq2) (nAt pa pq2)).2.2.2.2.2.1 (m_work (sl2, a2, b2, (pq2 + 1), sa2, ev2, fl2, L2, V2) (nAt pn pq2) (nAt pa pq2)).2.2.2.2.2.2.1 (m_work (sl2, a2, b2, (pq2 + 1), sa2, ev2, fl2, L2, V2) (nAt pn pq2) (nAt pa pq2)).2.2.2.2.2.2.2.1 (m_work (sl2, a2, b2, (pq2 + 1), sa2, ev2, fl2, L2, V2) (nAt pn pq2) (nAt pa pq2)).2.2.2.2.2.2.2.2 (by have hQ : P (some (.int (m_exec pn pa (d + 1) (sl2, a2, b2, pq2, sa2, ev2, fl2, L2, V2)).2.2.2.2.1)) (mput z S (m_exec pn pa (d + 1) (sl2, a2, b2, pq2, sa2, ev2, fl2, L2, V2))) := hP; rw [show m_exec pn pa (d + 1) (sl2, a2, b2, pq2, sa2, ev2, fl2, L2, V2) = m_exec pn pa d (m_step pn pa (sl2, a2, b2, pq2, sa2, ev2, fl2, L2, V2)) from if_pos c2, (show m_step pn pa (sl2, a2, b2, pq2, sa2, ev2, fl2, L2, V2) = (m_work (sl2, a2, b2, (pq2 + 1), sa2, ev2, fl2, L2, V2) (nAt pn pq2) (nAt pa pq2)) from by first | (simp [m_step, m_setat, c3, c4]; done) | (simp_all [m_step, m_setat]; done))] at hQ; exact hQ)
          · have c3 := Int32.not_le.mp (of_decide_eq_false c3)
            refine xw.steps 3 (fun _ => rfl) ?_
            show xw z NK g 41 90 [(0, .ref (z + 47)), (1, .ref (z + 37)), (2, .int fu), (3, .int (nI B)), (4, .int (nI i)), (5, .int (nAt pn pq2)), (6, .int (nAt pa pq2))] [.int (nAt pa pq2), .int (nAt pn pq2), .ref (z + 47)] (mput z S (sl2, a2, b2, (pq2 + 1), sa2, ev2, fl2, L2, V2)) P
            refine xw.callO (o := 47) rfl rfl rfl (mput_47 _ _ _) rfl rfl (c_move h44 ?_)
            show xw z NK g 41 93 [(0, .ref (z + 47)), (1, .ref (z + 37)), (2, .int fu), (3, .int (nI B)), (4, .int (nI i)), (5, .int (nAt pn pq2)), (6, .int (nAt pa pq2))] [] (mput z S (m_move (sl2, a2, b2, (pq2 + 1), sa2, ev2, fl2, L2, V2) (nAt pn pq2) (nAt pa pq2))) P
            refine xw.steps 3 (fun _ => rfl) ?_
            show xw z NK g 41 34 [(0, .ref (z + 47)), (1, .ref (z + 37)), (2, .int fu), (3, .int (nI B)), (4, .int ((nI i) + 1)), (5, .int (nAt pn pq2)), (6, .int (nAt pa pq2))] [] (mput z S (m_move (sl2, a2, b2, (pq2 + 1), sa2, ev2, fl2, L2, V2) (nAt pn pq2) (nAt pa pq2))) P
            rw [nI_1]
            refine xw.forget (lv := [(0, .ref (z + 47)), (1, .ref (z + 37)), (2, .int fu), (3, .int (nI B)), (4, .int (nI (i + 1)))]) lk_41 (show [0, 1, 2, 3, 4].Nodup by decide) (show [0, 1, 2, 3, 4, 5, 6].Nodup by decide) (List.forall_mem_cons.mpr ⟨rfl, List.forall_mem_cons.mpr ⟨rfl, List.forall_mem_cons.mpr ⟨rfl, List.forall_mem_cons.mpr ⟨rfl, List.forall_mem_cons.mpr ⟨rfl, fun _ h => absurd h List.not_mem_nil⟩⟩⟩⟩⟩) ?_
            exact ih (i + 1) (by omega) (m_move (sl2, a2, b2, (pq2 + 1), sa2, ev2, fl2, L2, V2) (nAt pn pq2) (nAt pa pq2)).1 (m_move (sl2, a2, b2, (pq2 + 1), sa2, ev2, fl2, L2, V2) (nAt pn pq2) (nAt pa pq2)).2.1 (m_move (sl2, a2, b2, (pq2 + 1), sa2, ev2, fl2, L2, V2) (nAt pn pq2) (nAt pa pq2)).2.2.1 (m_move (sl2, a2, b2, (pq2 + 1), sa2, ev2, fl2, L2, V2) (nAt pn pq2) (nAt pa pq2)).2.2.2.1 (m_move (sl2, a2, b2, (pq2 + 1), sa2, ev2, fl2, L2, V2) (nAt pn pq2) (nAt pa pq2)).2.2.2.2.1 (m_move (sl2, a2, b2, (pq2 + 1), sa2, ev2, fl2, L2, V2) (nAt pn pq2) (nAt pa pq2)).2.2.2.2.2.1 (m_move (sl2, a2, b2, (pq2 + 1), sa2, ev2, fl2, L2, V2) (nAt pn pq2) (nAt pa pq2)).2.2.2.2.2.2.1 (m_move (sl2, a2, b2, (pq2 + 1), sa2, ev2, fl2, L2, V2) (nAt pn pq2) (nAt pa pq2)).2.2.2.2.2.2.2.1 (m_move (sl2, a2, b2, (pq2 + 1), sa2, ev2, fl2, L2, V2) (nAt pn pq2) (nAt pa pq2)).2.2.2.2.2.2.2.2 (by have hQ : P (some (.int (m_exec pn pa (d + 1) (sl2, a2, b2, pq2, sa2, ev2, fl2, L2, V2)).2.2.2.2.1)) (mput z S (m_exec pn pa (d + 1) (sl2, a2, b2, pq2, sa2, ev2, fl2, L2, V2))) := hP; rw [show m_exec pn pa (d + 1) (sl2, a2, b2, pq2, sa2, ev2, fl2, L2, V2) = m_exec pn pa d (m_step pn pa (sl2, a2, b2, pq2, sa2, ev2, fl2, L2, V2)) from if_pos c2, (show m_step pn pa (sl2, a2, b2, pq2, sa2, ev2, fl2, L2, V2) = (m_move (sl2, a2, b2, (pq2 + 1), sa2, ev2, fl2, L2, V2) (nAt pn pq2) (nAt pa pq2)) from by first | (simp [m_step, m_setat, c3]; done) | (simp_all [m_step, m_setat]; done))] at hQ; exact hQ)
  refine xw.steps 2 (fun _ => rfl) ?_
  refine xw.putf (o := 47) (fs' := [.ref (z + 44), .ref (z + 48), .int a, .int b, .int 0, .int sa, .int ev, .int fl]) rfl (mput_47 _ _ _) (Nat.le_of_ble_eq_true rfl) rfl rfl rfl ?_
  show xw z NK g 41 5 [(0, .ref (z + 47)), (1, .ref (z + 37)), (2, .int fu)] [] (xu (mput z S (sl, a, b, pq, sa, ev, fl, L, V)) 47 (.inr (.inr (4, [.ref (z + 44), .ref (z + 48), .int a, .int b, .int 0, .int sa, .int ev, .int fl])))) P
  rw [mput_s47]
  refine xw.steps 2 (fun _ => rfl) ?_
  refine xw.putf (o := 47) (fs' := [.ref (z + 44), .ref (z + 48), .int a, .int b, .int 0, .int sa, .int 0, .int fl]) rfl (mput_47 _ _ _) (Nat.le_of_ble_eq_true rfl) rfl rfl rfl ?_
  show xw z NK g 41 10 [(0, .ref (z + 47)), (1, .ref (z + 37)), (2, .int fu)] [] (xu (mput z S (sl, a, b, 0, sa, ev, fl, L, V)) 47 (.inr (.inr (4, [.ref (z + 44), .ref (z + 48), .int a, .int b, .int 0, .int sa, .int 0, .int fl])))) P
  rw [mput_s47]
  refine xw.steps 2 (fun _ => rfl) ?_
  refine xw.putf (o := 47) (fs' := [.ref (z + 44), .ref (z + 48), .int a, .int b, .int 0, .int sa, .int 0, .int fu]) rfl (mput_47 _ _ _) (Nat.le_of_ble_eq_true rfl) rfl rfl rfl ?_
  show xw z NK g 41 15 [(0, .ref (z + 47)), (1, .ref (z + 37)), (2, .int fu)] [] (xu (mput z S (sl, a, b, 0, sa, 0, fl, L, V)) 47 (.inr (.inr (4, [.ref (z + 44), .ref (z + 48), .int a, .int b, .int 0, .int sa, .int 0, .int fu])))) P
  rw [mput_s47]
  refine xw.steps 2 (fun _ => rfl) ?_
  refine xw.putf (o := 47) (fs' := [.ref (z + 44), .ref (z + 48), .int a, .int b, .int 0, .int (-1), .int 0, .int fu]) rfl (mput_47 _ _ _) (Nat.le_of_ble_eq_true rfl) rfl rfl rfl ?_
  show xw z NK g 41 20 [(0, .ref (z + 47)), (1, .ref (z + 37)), (2, .int fu)] [] (xu (mput z S (sl, a, b, 0, sa, 0, fu, L, V)) 47 (.inr (.inr (4, [.ref (z + 44), .ref (z + 48), .int a, .int b, .int 0, .int (-1), .int 0, .int fu])))) P
  rw [mput_s47]
  refine xw.steps 4 (fun _ => rfl) ?_
  show xw z NK g 41 24 [(0, .ref (z + 47)), (1, .ref (z + 37)), (2, .int fu)] [.ref (z + 37), .int (fu + 2)] (mput z S (sl, a, b, 0, (-1), 0, fu, L, V)) P
  refine xw.callO (o := 37) rfl rfl rfl ((mput_ne _ _ _ (by decide)).trans h37) rfl rfl (c_Program_size ⟨((mput_ne _ _ _ (by decide)).trans h37), ((mput_ne _ _ _ (by decide)).trans h38), ((mput_ne _ _ _ (by decide)).trans h40), ((mput_ne _ _ _ (by decide)).trans h42)⟩ ?_)
  show xw z NK g 41 27 [(0, .ref (z + 47)), (1, .ref (z + 37)), (2, .int fu)] [.int (nI pn.length), .int (fu + 2)] (mput z S (sl, a, b, 0, (-1), 0, fu, L, V)) P
  refine xw.steps 6 (fun _ => rfl) ?_
  show xw z NK g 41 34 [(0, .ref (z + 47)), (1, .ref (z + 37)), (2, .int fu), (3, .int ((fu + 2) * ((nI pn.length) + 1))), (4, .int 0)] [] (mput z S (sl, a, b, 0, (-1), 0, fu, L, V)) P
  rw [hB]
  exact loop B 0 (by omega) sl a b 0 (-1) 0 fu L V hP
end XE
