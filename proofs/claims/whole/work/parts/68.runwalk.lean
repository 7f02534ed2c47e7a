/-! ROWCODE: run (walks by wip/gen68.py) -/
def c4of (xs ys ds : List Int32) : List Int32 × List Int32 := p_pass (p_pass (p_pass (p_pass (p_copy xs ys ds xs.length 0 [] []))))
def tof (xs ys pj ds : List Int32) : TT := tr_loop (c4of xs ys ds).1 (c4of xs ys ds).2 (fun k => nAt ds (nAt pj k)) ((c4of xs ys ds).1.length + 1) 0 ([], [], [], -1, -1)
def gof (xs ys pj ds : List Int32) : GG := g_fin (g_dec (tof xs ys pj ds).1 ((tof xs ys pj ds).1.length + 1) 0 ([], [], List.replicate 100 (-1)))
/-- what the calls of a run ask for -/
def OKL (xs ys pj ds : List Int32) : Prop :=
  (p_copy xs ys ds xs.length 0 [] []).1.length < 60000 ∧ (p_pass (p_copy xs ys ds xs.length 0 [] [])).1.length < 60000 ∧ (p_pass (p_pass (p_copy xs ys ds xs.length 0 [] []))).1.length < 60000 ∧ (p_pass (p_pass (p_pass (p_copy xs ys ds xs.length 0 [] [])))).1.length < 60000 ∧ (c4of xs ys ds).1.length < 60000 ∧
  tr_pre (c4of xs ys ds).1 (c4of xs ys ds).2 (fun k => nAt ds (nAt pj k)) ((c4of xs ys ds).1.length + 1) 0 ([], [], [], -1, -1) ∧ (tof xs ys pj ds).1.length < 131000
section RUN
variable {Bk : xS} {z : Nat} {NK : List Nat} {g : mx_G} {S : xS} {P : Option Value → xS → Prop} {xs ys pj ds cm wt pl us fs ga ns as : List Int32} {jd rt ld : Int32} {t : TT} {gg : GG} {m : MM}
theorem c_imO (hO : OS Bk z S xs ys pj ds cm wt jd rt pl us fs ga ns as t gg m ld) (hb : xs.length < 60000) (hL : OKL xs ys pj ds) (hP : ∀ S' pl' us' fs' ga', OS Bk z S' xs ys pj ds cm wt jd rt pl' us' fs' ga' (c4of xs ys ds).1 (c4of xs ys ds).2 t gg m ld → P (some (.ref (z + 25))) S') : xw z NK g 72 0 [(0, .ref (z + 15)), (1, .ref (z + 1)), (2, .ref (z + 6))] [] S P :=
  c_improve hO.2.1 hO.2.2.1 hb hL.1 hL.2.1 hL.2.2.1 hL.2.2.2.1 (hP _ _ _ _ _ (OS_pput hO _))
theorem c_trO (hO : OS Bk z S xs ys pj ds cm wt jd rt pl us fs ga ns as t gg m ld) (hb : ns.length < 60000) (hpre : tr_pre ns as (fun k => nAt ds (nAt pj k)) (ns.length + 1) 0 ([], [], [], -1, -1)) (hP : ∀ S', OS Bk z S' xs ys pj ds cm wt jd rt pl us fs ga ns as (tr_loop ns as (fun k => nAt ds (nAt pj k)) (ns.length + 1) 0 ([], [], [], -1, -1)) gg m ld → P (some (.ref (z + 31))) S') : xw z NK g 87 0 [(0, .ref (z + 30)), (1, .ref (z + 25)), (2, .ref (z + 6))] [] S P := by
  obtain ⟨h0, ⟨j1, j2, j4, j6, j7, j9, j11, j13⟩, ⟨i15, i16, i18, i20, i21, i23, i25, i26, i28⟩, h30, h31, h33, h35, ⟨g37, g38, g40, g42⟩, h44, h48, h45, h46, h47, hBk⟩ := id hO
  have h := c_translate (P := P) (g := g) (NK := NK) (im := t.1) (ki := t.2.1) (de := t.2.2.1) (iA := t.2.2.2.1) (iB := t.2.2.2.2) hO.2.1 i25 i26 i28 hb hpre (hP _ (OS_tput hO _))
  have e : tput z S (t.1, t.2.1, t.2.2.1, t.2.2.2.1, t.2.2.2.2) = S := OS_t hO
  rw [e] at h
  exact h
theorem c_ldO (hO : OS Bk z S xs ys pj ds cm wt jd rt pl us fs ga ns as t gg m ld) (hb : t.1.length < 131000) (hP : ∀ S', OS Bk z S' xs ys pj ds cm wt jd rt pl us fs ga ns as t (g_fin (g_dec t.1 (t.1.length + 1) 0 ([], [], List.replicate 100 (-1)))) m ld → P none S') : xw z NK g 35 0 [(0, .ref (z + 37)), (1, .ref (z + 31))] [] S P := by
  obtain ⟨h0, ⟨j1, j2, j4, j6, j7, j9, j11, j13⟩, ⟨i15, i16, i18, i20, i21, i23, i25, i26, i28⟩, h30, h31, h33, h35, ⟨g37, g38, g40, g42⟩, h44, h48, h45, h46, h47, hBk⟩ := id hO
  exact c_load (pn := gg.1) (pa := gg.2.1) (pp := gg.2.2) ⟨g37, g38, g40, g42⟩ h31 hb (hP _ (OS_gput hO _))
theorem c_exO (hO : OS Bk z S xs ys pj ds cm wt jd rt pl us fs ga ns as t gg m ld) {fu : Int32} {B : Nat} (hB : (fu + 2) * (nI gg.1.length + 1) = nI B) (hB2 : B < 2 ^ 31) (hP : ∀ S', OS Bk z S' xs ys pj ds cm wt jd rt pl us fs ga ns as t gg (m_exec gg.1 gg.2.1 B (m.1, m.2.1, m.2.2.1, 0, -1, 0, fu, m.2.2.2.2.2.2.2.1, m.2.2.2.2.2.2.2.2)) ld → P (some (.int (m_exec gg.1 gg.2.1 B (m.1, m.2.1, m.2.2.1, 0, -1, 0, fu, m.2.2.2.2.2.2.2.1, m.2.2.2.2.2.2.2.2)).2.2.2.2.1)) S') : xw z NK g 41 0 [(0, .ref (z + 47)), (1, .ref (z + 37)), (2, .int fu)] [] S P := by
  obtain ⟨h0, ⟨j1, j2, j4, j6, j7, j9, j11, j13⟩, ⟨i15, i16, i18, i20, i21, i23, i25, i26, i28⟩, h30, h31, h33, h35, ⟨g37, g38, g40, g42⟩, h44, h48, h45, h46, h47, hBk⟩ := id hO
  have h := c_execute (P := P) (g := g) (NK := NK) (sl := m.1) (a := m.2.1) (b := m.2.2.1) (pq := m.2.2.2.1) (sa := m.2.2.2.2.1) (ev := m.2.2.2.2.2.1) (fl := m.2.2.2.2.2.2.1) (L := m.2.2.2.2.2.2.2.1) (V := m.2.2.2.2.2.2.2.2) h44 ⟨g37, g38, g40, g42⟩ hB hB2 (hP _ (OS_mput hO _))
  have e : mput z S (m.1, m.2.1, m.2.2.1, m.2.2.2.1, m.2.2.2.2.1, m.2.2.2.2.2.1, m.2.2.2.2.2.2.1, m.2.2.2.2.2.2.2.1, m.2.2.2.2.2.2.2.2) = S := OS_m hO
  rw [e] at h
  exact h
set_option maxHeartbeats 4000000 in
/-- RowCode.run(I)I -/
theorem c_run {b : Bool} {fu : Int32} (hO : OS Bk z S xs ys pj ds cm wt jd (bI b) pl us fs ga ns as t gg m ld) (hb : xs.length < 60000) (hP0 : fu < 0 ∨ 20000 < fu → P (some (.int (-1))) S) (hP1 : ¬ fu < 0 → ¬ 20000 < fu → ∀ S' pj' ds' cm' wt' jd', OS Bk z S' xs ys pj' ds' cm' wt' jd' (bI false) pl us fs ga ns as t gg m ld → ((¬ jd = 0 ∧ pj' = pj ∧ ds' = ds ∧ cm' = cm ∧ wt' = wt ∧ jd' = jd ∧ false = b) ∨ (jd = 0 ∧ jd' = 1 ∧ (pj', ds', cm', wt', false) = j_judge xs ys pj ds cm wt)) → P (some (.int (-1))) S') (hL : ∀ pj' ds' cm' wt' jd', ((¬ jd = 0 ∧ pj' = pj ∧ ds' = ds ∧ cm' = cm ∧ wt' = wt ∧ jd' = jd ∧ true = b) ∨ (jd = 0 ∧ jd' = 1 ∧ (pj', ds', cm', wt', true) = j_judge xs ys pj ds cm wt)) → ld = 0 → OKL xs ys pj' ds') (hP : ¬ fu < 0 → ¬ 20000 < fu → ∀ pj' ds' cm' wt' jd', ((¬ jd = 0 ∧ pj' = pj ∧ ds' = ds ∧ cm' = cm ∧ wt' = wt ∧ jd' = jd ∧ true = b) ∨ (jd = 0 ∧ jd' = 1 ∧ (pj', ds', cm', wt', true) = j_judge xs ys pj ds cm wt)) → ∀ gg' : GG, (ld = 0 → gg' = gof xs ys pj' ds') → (¬ ld = 0 → gg' = gg) → ∃ B, (fu + 2) * (nI gg'.1.length + 1) = nI B ∧ B < 2 ^ 31 ∧ ∀ S' pl' us' fs' ga' ns' as' t' ld', OS Bk z S' xs ys pj' ds' cm' wt' jd' (bI true) pl' us' fs' ga' ns' as' t' gg' (m_exec gg'.1 gg'.2.1 B (m.1, m.2.1, m.2.2.1, 0, -1, 0, fu, m.2.2.2.2.2.2.2.1, m.2.2.2.2.2.2.2.2)) ld' → ¬ ld' = 0 → P (some (.int (m_exec gg'.1 gg'.2.1 B (m.1, m.2.1, m.2.2.1, 0, -1, 0, fu, m.2.2.2.2.2.2.2.1, m.2.2.2.2.2.2.2.2)).2.2.2.2.1)) S') : xw z NK g 107 0 [(0, .ref (z + 0)), (1, .int fu)] [] S P := by
  obtain ⟨h0, ⟨j1, j2, j4, j6, j7, j9, j11, j13⟩, ⟨i15, i16, i18, i20, i21, i23, i25, i26, i28⟩, h30, h31, h33, h35, ⟨g37, g38, g40, g42⟩, h44, h48, h45, h46, h47, hBk⟩ := id hO
  refine xw.steps 1 (fun _ => rfl) ?_
  refine xw.if_ rfl (fun c1 => ?_) (fun c1 => ?_)
  · have c1 := of_decide_eq_true c1
    refine xw.steps 1 (fun _ => rfl) ?_
    refine xw.ret rfl (fun _ => rfl) ?_
    show P (some (.int (-1))) S
    exact hP0 (.inl c1)
  · have c1 := of_decide_eq_false c1
    refine xw.steps 2 (fun _ => rfl) ?_
    refine xw.icmp rfl (fun c2 => ?_) (fun c2 => ?_)
    · have c2 := of_decide_eq_true c2
      refine xw.steps 1 (fun _ => rfl) ?_
      refine xw.ret rfl (fun _ => rfl) ?_
      show P (some (.int (-1))) S
      exact hP0 (.inr c2)
    · have c2 := of_decide_eq_false c2
      refine xw.steps 1 (fun _ => rfl) ?_
      refine xw.getf (o := 0) rfl h0 rfl ?_
      show xw z NK g 107 15 [(0, .ref (z + 0)), (1, .int fu)] [.ref (z + 6)] S P
      refine xw.callO (o := 6) rfl rfl rfl j6 rfl rfl (c_fr hO hb ?_)
      intro S2 pj2 ds2 cm2 wt2 jd2 b2 hO2 hD
      obtain ⟨h02, ⟨j12, j22, j42, j62, j72, j92, j112, j132⟩, ⟨i152, i162, i182, i202, i212, i232, i252, i262, i282⟩, h302, h312, h332, h352, ⟨g372, g382, g402, g422⟩, h442, h482, h452, h462, h472, hBk2⟩ := id hO2
      show xw z NK g 107 18 [(0, .ref (z + 0)), (1, .int fu)] [.int (bI b2)] S2 P
      refine xw.if_ rfl (fun c3 => ?_) (fun c3 => ?_)
      · have c3 := bI_ne0 (of_decide_eq_true c3)
        show xw z NK g 107 23 [(0, .ref (z + 0)), (1, .int fu)] [] S2 P
        have eb : b2 = true := c3
        subst eb
        show xw z NK g 107 23 [(0, .ref (z + 0)), (1, .int fu)] [] S2 P
        refine xw.steps 1 (fun _ => rfl) ?_
        refine xw.getf (o := 0) rfl h02 rfl ?_
        refine xw.if_ rfl (fun c4 => ?_) (fun c4 => ?_)
        · have c4 := of_decide_eq_true c4
          show xw z NK g 107 70 [(0, .ref (z + 0)), (1, .int fu)] [] S2 P
          obtain ⟨B, hB1, hB2, hB3⟩ := hP c1 c2 pj2 ds2 cm2 wt2 jd2 hD gg (fun w => absurd w c4) (fun _ => rfl)
          refine xw.steps 1 (fun _ => rfl) ?_
          refine xw.getf (o := 0) rfl h02 rfl ?_
          refine xw.steps 1 (fun _ => rfl) ?_
          refine xw.getf (o := 0) rfl h02 rfl ?_
          refine xw.steps 1 (fun _ => rfl) ?_
          show xw z NK g 107 79 [(0, .ref (z + 0)), (1, .int fu)] [.int fu, .ref (z + 37), .ref (z + 47)] S2 P
          refine xw.callO (o := 47) rfl rfl rfl h472 rfl rfl (c_exO hO2 hB1 hB2 ?_)
          intro S6 hO6
          show xw z NK g 107 82 [(0, .ref (z + 0)), (1, .int fu)] [.int (m_exec gg.1 gg.2.1 B (m.1, m.2.1, m.2.2.1, 0, -1, 0, fu, m.2.2.2.2.2.2.2.1, m.2.2.2.2.2.2.2.2)).2.2.2.2.1] S6 P
          refine xw.ret rfl (fun _ => rfl) ?_
          show P (some (.int (m_exec gg.1 gg.2.1 B (m.1, m.2.1, m.2.2.1, 0, -1, 0, fu, m.2.2.2.2.2.2.2.1, m.2.2.2.2.2.2.2.2)).2.2.2.2.1)) S6
          exact hB3 S6 _ _ _ _ _ _ _ _ hO6 c4
        · have c4 := Decidable.not_not.mp (of_decide_eq_false c4)
          show xw z NK g 107 30 [(0, .ref (z + 0)), (1, .int fu)] [] S2 P
          have hL2 := hL pj2 ds2 cm2 wt2 jd2 hD c4
          refine xw.steps 1 (fun _ => rfl) ?_
          refine xw.getf (o := 0) rfl h02 rfl ?_
          refine xw.steps 1 (fun _ => rfl) ?_
          refine xw.getf (o := 0) rfl h02 rfl ?_
          refine xw.steps 1 (fun _ => rfl) ?_
          refine xw.getf (o := 0) rfl h02 rfl ?_
          show xw z NK g 107 42 [(0, .ref (z + 0)), (1, .int fu)] [.ref (z + 6), .ref (z + 1), .ref (z + 15)] S2 P
          refine xw.callO (o := 15) rfl rfl rfl i152 rfl rfl (c_imO hO2 hb hL2 ?_)
          intro S3 pl3 us3 fs3 ga3 hO3
          obtain ⟨h03, ⟨j13, j23, j43, j63, j73, j93, j113, j133⟩, ⟨i153, i163, i183, i203, i213, i233, i253, i263, i283⟩, h303, h313, h333, h353, ⟨g373, g383, g403, g423⟩, h443, h483, h453, h463, h473, hBk3⟩ := id hO3
          show xw z NK g 107 45 [(0, .ref (z + 0)), (1, .int fu)] [.ref (z + 25)] S3 P
          refine xw.steps 2 (fun _ => rfl) ?_
          refine xw.getf (o := 0) rfl h03 rfl ?_
          refine xw.steps 1 (fun _ => rfl) ?_
          refine xw.getf (o := 0) rfl h03 rfl ?_
          refine xw.steps 2 (fun _ => rfl) ?_
          refine xw.getf (o := 0) rfl h03 rfl ?_
          show xw z NK g 107 59 [(0, .ref (z + 0)), (1, .int fu), (2, .ref (z + 25))] [.ref (z + 6), .ref (z + 25), .ref (z + 30), .ref (z + 37)] S3 P
          refine xw.callO (o := 30) rfl rfl rfl h303 rfl rfl (c_trO hO3 hL2.2.2.2.2.1 hL2.2.2.2.2.2.1 ?_)
          intro S4 hO4
          have hO4 : OS Bk z S4 xs ys pj2 ds2 cm2 wt2 jd2 ((bI true)) pl3 us3 fs3 ga3 ((c4of xs ys ds2).1) ((c4of xs ys ds2).2) ((tof xs ys pj2 ds2)) gg m ld := hO4
          obtain ⟨h04, ⟨j14, j24, j44, j64, j74, j94, j114, j134⟩, ⟨i154, i164, i184, i204, i214, i234, i254, i264, i284⟩, h304, h314, h334, h354, ⟨g374, g384, g404, g424⟩, h444, h484, h454, h464, h474, hBk4⟩ := id hO4
          show xw z NK g 107 62 [(0, .ref (z + 0)), (1, .int fu), (2, .ref (z + 25))] [.ref (z + 31), .ref (z + 37)] S4 P
          show xw z NK g 107 62 [(0, .ref (z + 0)), (1, .int fu), (2, .ref (z + 25))] [.ref (z + 31), .ref (z + 37)] S4 P
          refine xw.callO (o := 37) rfl rfl rfl g374 rfl rfl (c_ldO hO4 hL2.2.2.2.2.2.2 ?_)
          intro S5 hO5
          have hO5 : OS Bk z S5 xs ys pj2 ds2 cm2 wt2 jd2 ((bI true)) pl3 us3 fs3 ga3 ((c4of xs ys ds2).1) ((c4of xs ys ds2).2) ((tof xs ys pj2 ds2)) ((gof xs ys pj2 ds2)) m ld := hO5
          obtain ⟨h05, ⟨j15, j25, j45, j65, j75, j95, j115, j135⟩, ⟨i155, i165, i185, i205, i215, i235, i255, i265, i285⟩, h305, h315, h335, h355, ⟨g375, g385, g405, g425⟩, h445, h485, h455, h465, h475, hBk5⟩ := id hO5
          show xw z NK g 107 65 [(0, .ref (z + 0)), (1, .int fu), (2, .ref (z + 25))] [] S5 P
          refine xw.steps 2 (fun _ => rfl) ?_
          refine xw.putf (o := 0) (fs' := [.ref (z + 1), .ref (z + 6), .ref (z + 15), .ref (z + 30), .ref (z + 37), .ref (z + 44), .ref (z + 47), .int 1]) rfl h05 (Nat.le_of_ble_eq_true rfl) rfl rfl rfl ?_
          show xw z NK g 107 70 [(0, .ref (z + 0)), (1, .int fu), (2, .ref (z + 25))] [] (xu S5 0 (.inr (.inr (9, [.ref (z + 1), .ref (z + 6), .ref (z + 15), .ref (z + 30), .ref (z + 37), .ref (z + 44), .ref (z + 47), .int 1])))) P
          show xw z NK g 107 70 [(0, .ref (z + 0)), (1, .int fu), (2, .ref (z + 25))] [] (xu S5 0 (.inr (.inr (9, [.ref (z + 1), .ref (z + 6), .ref (z + 15), .ref (z + 30), .ref (z + 37), .ref (z + 44), .ref (z + 47), .int 1])))) P
          obtain ⟨B, hB1, hB2, hB3⟩ := hP c1 c2 pj2 ds2 cm2 wt2 jd2 hD (gof xs ys pj2 ds2) (fun _ => rfl) (fun w => absurd c4 w)
          refine xw.steps 1 (fun _ => rfl) ?_
          refine xw.getf (o := 0) rfl (xu_self _ _ _) rfl ?_
          refine xw.steps 1 (fun _ => rfl) ?_
          refine xw.getf (o := 0) rfl (xu_self _ _ _) rfl ?_
          refine xw.steps 1 (fun _ => rfl) ?_
          show xw z NK g 107 79 [(0, .ref (z + 0)), (1, .int fu), (2, .ref (z + 25))] [.int fu, .ref (z + 37), .ref (z + 47)] (xu S5 0 (.inr (.inr (9, [.ref (z + 1), .ref (z + 6), .ref (z + 15), .ref (z + 30), .ref (z + 37), .ref (z + 44), .ref (z + 47), .int 1])))) P
          refine xw.callO (o := 47) rfl rfl rfl ((xu_ne _ _ (by decide)).trans h475) rfl rfl (c_exO (OS_ld hO5 1) hB1 hB2 ?_)
          intro S6 hO6
          show xw z NK g 107 82 [(0, .ref (z + 0)), (1, .int fu), (2, .ref (z + 25))] [.int (m_exec (gof xs ys pj2 ds2).1 (gof xs ys pj2 ds2).2.1 B (m.1, m.2.1, m.2.2.1, 0, -1, 0, fu, m.2.2.2.2.2.2.2.1, m.2.2.2.2.2.2.2.2)).2.2.2.2.1] S6 P
          refine xw.ret rfl (fun _ => rfl) ?_
          show P (some (.int (m_exec (gof xs ys pj2 ds2).1 (gof xs ys pj2 ds2).2.1 B (m.1, m.2.1, m.2.2.1, 0, -1, 0, fu, m.2.2.2.2.2.2.2.1, m.2.2.2.2.2.2.2.2)).2.2.2.2.1)) S6
          exact hB3 S6 _ _ _ _ _ _ _ _ hO6 (show ¬ (1 : Int32) = 0 by decide)
      · have c3 := bI_eq0 (Decidable.not_not.mp (of_decide_eq_false c3))
        refine xw.steps 1 (fun _ => rfl) ?_
        refine xw.ret rfl (fun _ => rfl) ?_
        show P (some (.int (-1))) S2
        rw [c3] at hO2 hD
        exact hP1 c1 c2 S2 pj2 ds2 cm2 wt2 jd2 hO2 hD
end RUN
