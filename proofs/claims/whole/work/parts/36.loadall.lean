/-! PROGRAM: load, all of it (walks by wip/gen36.py) -/
def g_fin (t : GG) : GG := (t.1, g_fix t.1 t.2.2 t.1.length 0 t.2.1, t.2.2)
section XL2
variable {z : Nat} {NK : List Nat} {g : mx_G} {S : xS} {P : Option Value → xS → Prop} {pn pa pp im : List Int32}
theorem c_takeG (h37 : S 37 = some (.inr (.inr (7, [.ref (z + 38), .ref (z + 40), .ref (z + 42)])))) (hl1 : pn.length < 131072) (hl2 : pa.length < 131072) {n k : Int32} (hP : P none (gput S (g_take pn pa pp n k))) : xw z NK g 36 0 [(0, .ref (z + 37)), (1, .int n), (2, .int k)] [] (gput S (pn, pa, pp)) P :=
  c_take (pn := pn) (pa := pa) (pp := pp) ⟨(gput_ne _ _ (by decide)).trans h37, gput_38 _ _, gput_40 _ _, gput_42 _ _⟩ hl1 hl2 (by rw [gput_all]; exact hP)
set_option maxHeartbeats 8000000 in
/-- RowCode$Program.load(LRowCode$Numbers;)V -/
theorem c_load (hG : gS z S pn pa pp) (h31 : S 31 = some (.inl im)) (hb : im.length < 131000) (hP : P none (gput S (g_fin (g_dec im (im.length + 1) 0 ([], [], List.replicate 100 (-1)))))) : xw z NK g 35 0 [(0, .ref (z + 37)), (1, .ref (z + 31))] [] S P := by
  obtain ⟨h37, h38, h40, h42⟩ := id hG
  have loop : ∀ (d i : Nat) (hi : im.length ≤ i + d) (hi2 : i ≤ im.length + 1) (pn2 pa2 pp2 : List Int32) (l1 : pn2.length ≤ i) (l2 : pa2.length ≤ i) (hP : P none (gput S (g_fin (g_dec im d i (pn2, pa2, pp2))))), xw z NK g 35 28 [(0, .ref (z + 37)), (1, .ref (z + 31)), (2, .int (nI i))] [] (gput S (pn2, pa2, pp2)) P := by
    intro d
    induction d with
    | zero =>
      intro i hi hi2 pn2 pa2 pp2 l1 l2 hP
      refine xw.steps 2 (fun _ => rfl) ?_
      show xw z NK g 35 30 [(0, .ref (z + 37)), (1, .ref (z + 31)), (2, .int (nI i))] [.ref (z + 31), .int (nI i)] (gput S (pn2, pa2, pp2)) P
      refine xw.callN (o := 31) rfl rfl rfl ((gput_ne _ _ (by decide)).trans h31) rfl rfl (c_size ((gput_ne _ _ (by decide)).trans h31) ?_)
      show xw z NK g 35 33 [(0, .ref (z + 37)), (1, .ref (z + 31)), (2, .int (nI i))] [.int (nI im.length), .int (nI i)] (gput S (pn2, pa2, pp2)) P
      refine xw.icmp rfl (fun c1 => ?_) (fun c1 => ?_)
      · have c1 := Int32.not_lt.mpr (of_decide_eq_true c1)
        refine xw.steps 2 (fun _ => rfl) ?_
        show xw z NK g 35 84 [(0, .ref (z + 37)), (1, .ref (z + 31)), (2, .int 0)] [] (gput S (pn2, pa2, pp2)) P
        exact c_load2 h37 h31 (by omega) hP
      · have c1 := Int32.not_le.mp (of_decide_eq_false c1)
        show xw z NK g 35 36 [(0, .ref (z + 37)), (1, .ref (z + 31)), (2, .int (nI i))] [] (gput S (pn2, pa2, pp2)) P
        exact absurd c1 (nI_nlt (by omega) (by omega))
    | succ d ih =>
      intro i hi hi2 pn2 pa2 pp2 l1 l2 hP
      refine xw.steps 2 (fun _ => rfl) ?_
      show xw z NK g 35 30 [(0, .ref (z + 37)), (1, .ref (z + 31)), (2, .int (nI i))] [.ref (z + 31), .int (nI i)] (gput S (pn2, pa2, pp2)) P
      refine xw.callN (o := 31) rfl rfl rfl ((gput_ne _ _ (by decide)).trans h31) rfl rfl (c_size ((gput_ne _ _ (by decide)).trans h31) ?_)
      show xw z NK g 35 33 [(0, .ref (z + 37)), (1, .ref (z + 31)), (2, .int (nI i))] [.int (nI im.length), .int (nI i)] (gput S (pn2, pa2, pp2)) P
      refine xw.icmp rfl (fun c1 => ?_) (fun c1 => ?_)
      · have c1 := Int32.not_lt.mpr (of_decide_eq_true c1)
        refine xw.steps 2 (fun _ => rfl) ?_
        show xw z NK g 35 84 [(0, .ref (z + 37)), (1, .ref (z + 31)), (2, .int 0)] [] (gput S (pn2, pa2, pp2)) P
        rw [show g_dec im (d + 1) i (pn2, pa2, pp2) = (pn2, pa2, pp2) from if_neg c1] at hP
        exact c_load2 h37 h31 (by omega) hP
      · have c1 := Int32.not_le.mp (of_decide_eq_false c1)
        refine xw.steps 2 (fun _ => rfl) ?_
        show xw z NK g 35 38 [(0, .ref (z + 37)), (1, .ref (z + 31)), (2, .int (nI i))] [.int (nI i), .ref (z + 31)] (gput S (pn2, pa2, pp2)) P
        refine xw.callN (o := 31) rfl rfl rfl ((gput_ne _ _ (by decide)).trans h31) rfl rfl (c_at ((gput_ne _ _ (by decide)).trans h31) ?_)
        show xw z NK g 35 41 [(0, .ref (z + 37)), (1, .ref (z + 31)), (2, .int (nI i))] [.int (nAt im (nI i))] (gput S (pn2, pa2, pp2)) P
        refine xw.steps 8 (fun _ => rfl) ?_
        refine xw.if_ rfl (fun c2 => ?_) (fun c2 => ?_)
        · have c2 := of_decide_eq_true c2
          refine xw.steps 5 (fun _ => rfl) ?_
          show xw z NK g 35 73 [(0, .ref (z + 37)), (1, .ref (z + 31)), (2, .int (nI i)), (3, .int (nAt im (nI i))), (4, .int ((nAt im (nI i)) >>> (8 &&& 31)))] [.int ((nAt im (nI i)) >>> (8 &&& 31)), .int ((nAt im (nI i)) &&& 127), .ref (z + 37)] (gput S (pn2, pa2, pp2)) P
          refine xw.callO (o := 37) rfl rfl rfl ((gput_ne _ _ (by decide)).trans h37) rfl rfl (c_takeG (pn := pn2) (pa := pa2) (pp := pp2) h37 (by omega) (by omega) ?_)
          show xw z NK g 35 76 [(0, .ref (z + 37)), (1, .ref (z + 31)), (2, .int (nI i)), (3, .int (nAt im (nI i))), (4, .int ((nAt im (nI i)) >>> (8 &&& 31)))] [] (gput S (g_take pn2 pa2 pp2 ((nAt im (nI i)) &&& 127) ((nAt im (nI i)) >>> (8 &&& 31)))) P
          have hl := g_take_len (pn2, pa2, pp2) ((nAt im (nI i)) &&& 127) ((nAt im (nI i)) >>> (8 &&& 31))
          dsimp only at hl
          obtain ⟨t1, e1⟩ : ∃ t, t = (g_take pn2 pa2 pp2 ((nAt im (nI i)) &&& 127) ((nAt im (nI i)) >>> (8 &&& 31))) := ⟨_, rfl⟩
          rw [← e1] at hl
          rw [← e1]
          show xw z NK g 35 76 [(0, .ref (z + 37)), (1, .ref (z + 31)), (2, .int (nI i)), (3, .int (nAt im (nI i))), (4, .int ((nAt im (nI i)) >>> (8 &&& 31)))] [] (gput S t1) P
          refine xw.steps 2 (fun _ => rfl) ?_
          show xw z NK g 35 28 [(0, .ref (z + 37)), (1, .ref (z + 31)), (2, .int ((nI i) + 1)), (3, .int (nAt im (nI i))), (4, .int ((nAt im (nI i)) >>> (8 &&& 31)))] [] (gput S t1) P
          rw [nI_1]
          refine xw.forget (lv := [(0, .ref (z + 37)), (1, .ref (z + 31)), (2, .int (nI (i + 1)))]) lk_35 (show [0, 1, 2].Nodup by decide) (show [0, 1, 2, 3, 4].Nodup by decide) (List.forall_mem_cons.mpr ⟨rfl, List.forall_mem_cons.mpr ⟨rfl, List.forall_mem_cons.mpr ⟨rfl, fun _ h => absurd h List.not_mem_nil⟩⟩⟩) ?_
          have hs : g_dec im (d + 1) i (pn2, pa2, pp2) = g_dec im d (i + 1) t1 := by rw [g_dec, if_pos c1, if_pos c2, e1]
          rw [hs] at hP
          exact ih (i + 1) (by omega) (by have := (nI_ltI (by omega) (by omega)).mp c1; omega) (t1.1) (t1.2.1) (t1.2.2) (by omega) (by omega) hP
        · have c2 := of_decide_eq_false c2
          refine xw.steps 3 (fun _ => rfl) ?_
          show xw z NK g 35 61 [(0, .ref (z + 37)), (1, .ref (z + 31)), (2, .int ((nI i) + 1)), (3, .int (nAt im (nI i))), (4, .int ((nAt im (nI i)) >>> (8 &&& 31)))] [.int ((nI i) + 1), .ref (z + 31)] (gput S (pn2, pa2, pp2)) P
          refine xw.callN (o := 31) rfl rfl rfl ((gput_ne _ _ (by decide)).trans h31) rfl rfl (c_at ((gput_ne _ _ (by decide)).trans h31) ?_)
          show xw z NK g 35 64 [(0, .ref (z + 37)), (1, .ref (z + 31)), (2, .int ((nI i) + 1)), (3, .int (nAt im (nI i))), (4, .int ((nAt im (nI i)) >>> (8 &&& 31)))] [.int (nAt im ((nI i) + 1))] (gput S (pn2, pa2, pp2)) P
          refine xw.steps 6 (fun _ => rfl) ?_
          show xw z NK g 35 73 [(0, .ref (z + 37)), (1, .ref (z + 31)), (2, .int ((nI i) + 1)), (3, .int (nAt im (nI i))), (4, .int (nAt im ((nI i) + 1)))] [.int (nAt im ((nI i) + 1)), .int ((nAt im (nI i)) &&& 127), .ref (z + 37)] (gput S (pn2, pa2, pp2)) P
          refine xw.callO (o := 37) rfl rfl rfl ((gput_ne _ _ (by decide)).trans h37) rfl rfl (c_takeG (pn := pn2) (pa := pa2) (pp := pp2) h37 (by omega) (by omega) ?_)
          show xw z NK g 35 76 [(0, .ref (z + 37)), (1, .ref (z + 31)), (2, .int ((nI i) + 1)), (3, .int (nAt im (nI i))), (4, .int (nAt im ((nI i) + 1)))] [] (gput S (g_take pn2 pa2 pp2 ((nAt im (nI i)) &&& 127) (nAt im ((nI i) + 1)))) P
          have hl := g_take_len (pn2, pa2, pp2) ((nAt im (nI i)) &&& 127) (nAt im ((nI i) + 1))
          dsimp only at hl
          obtain ⟨t1, e1⟩ : ∃ t, t = (g_take pn2 pa2 pp2 ((nAt im (nI i)) &&& 127) (nAt im ((nI i) + 1))) := ⟨_, rfl⟩
          rw [← e1] at hl
          rw [← e1]
          show xw z NK g 35 76 [(0, .ref (z + 37)), (1, .ref (z + 31)), (2, .int ((nI i) + 1)), (3, .int (nAt im (nI i))), (4, .int (nAt im ((nI i) + 1)))] [] (gput S t1) P
          refine xw.steps 2 (fun _ => rfl) ?_
          show xw z NK g 35 28 [(0, .ref (z + 37)), (1, .ref (z + 31)), (2, .int (((nI i) + 1) + 1)), (3, .int (nAt im (nI i))), (4, .int (nAt im ((nI i) + 1)))] [] (gput S t1) P
          rw [nI_1, nI_1]
          refine xw.forget (lv := [(0, .ref (z + 37)), (1, .ref (z + 31)), (2, .int (nI (i + 1 + 1)))]) lk_35 (show [0, 1, 2].Nodup by decide) (show [0, 1, 2, 3, 4].Nodup by decide) (List.forall_mem_cons.mpr ⟨rfl, List.forall_mem_cons.mpr ⟨rfl, List.forall_mem_cons.mpr ⟨rfl, fun _ h => absurd h List.not_mem_nil⟩⟩⟩) ?_
          have hs : g_dec im (d + 1) i (pn2, pa2, pp2) = g_dec im d (i + 1 + 1) t1 := by rw [g_dec, if_pos c1, if_neg c2, e1]
          rw [hs] at hP
          exact ih (i + 1 + 1) (by omega) (by have := (nI_ltI (by omega) (by omega)).mp c1; omega) (t1.1) (t1.2.1) (t1.2.2) (by omega) (by omega) hP
  have e0 : S = gput S (pn, pa, pp) := by
    funext q; unfold gput xu
    by_cases h1 : q = 38 <;> by_cases h2 : q = 40 <;> by_cases h3 : q = 42 <;> simp_all
  rw [e0]
  refine xw.steps 1 (fun _ => rfl) ?_
  refine xw.getf (o := 37) rfl ((gput_ne _ _ (by decide)).trans h37) rfl ?_
  refine xw.steps 1 (fun _ => rfl) ?_
  show xw z NK g 35 5 [(0, .ref (z + 37)), (1, .ref (z + 31))] [.int 0, .ref (z + 38)] (gput S (pn, pa, pp)) P
  refine xw.callN (o := 38) rfl rfl rfl (gput_38 _ _) rfl rfl (c_cutTo (gput_38 _ _) ?_)
  show xw z NK g 35 8 [(0, .ref (z + 37)), (1, .ref (z + 31))] [] (xu (gput S (pn, pa, pp)) 38 (.inl (nCut pn 0))) P
  rw [gput_s38]
  refine xw.steps 1 (fun _ => rfl) ?_
  refine xw.getf (o := 37) rfl ((gput_ne _ _ (by decide)).trans h37) rfl ?_
  refine xw.steps 1 (fun _ => rfl) ?_
  show xw z NK g 35 13 [(0, .ref (z + 37)), (1, .ref (z + 31))] [.int 0, .ref (z + 40)] (gput S ((nCut pn 0), pa, pp)) P
  refine xw.callN (o := 40) rfl rfl rfl (gput_40 _ _) rfl rfl (c_cutTo (gput_40 _ _) ?_)
  show xw z NK g 35 16 [(0, .ref (z + 37)), (1, .ref (z + 31))] [] (xu (gput S ((nCut pn 0), pa, pp)) 40 (.inl (nCut pa 0))) P
  rw [gput_s40]
  refine xw.steps 1 (fun _ => rfl) ?_
  refine xw.getf (o := 37) rfl ((gput_ne _ _ (by decide)).trans h37) rfl ?_
  refine xw.steps 2 (fun _ => rfl) ?_
  show xw z NK g 35 23 [(0, .ref (z + 37)), (1, .ref (z + 31))] [.int (-1), .int 100, .ref (z + 42)] (gput S ((nCut pn 0), (nCut pa 0), pp)) P
  refine xw.callN (o := 42) rfl rfl rfl (gput_42 _ _) rfl rfl (c_refill (gput_42 _ _) (by decide) ?_)
  show xw z NK g 35 26 [(0, .ref (z + 37)), (1, .ref (z + 31))] [] (xu (gput S ((nCut pn 0), (nCut pa 0), pp)) 42 (.inl (List.replicate (100 : Int32).toNatClampNeg (-1)))) P
  rw [gput_s42]
  refine xw.steps 2 (fun _ => rfl) ?_
  show xw z NK g 35 28 [(0, .ref (z + 37)), (1, .ref (z + 31)), (2, .int 0)] [] (gput S ((nCut pn 0), (nCut pa 0), (List.replicate (100 : Int32).toNatClampNeg (-1)))) P
  have e1 : nCut pn 0 = [] := rfl
  have e2 : nCut pa 0 = [] := rfl
  rw [e1, e2]
  exact loop (im.length + 1) 0 (by omega) (by omega) _ _ _ (by simp) (by simp) hP
end XL2
