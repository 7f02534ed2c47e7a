/-! PROGRAM: load (walks by wip/gen35.py) -/
abbrev GG : Type := List Int32 × List Int32 × List Int32
def gput (S : xS) (t : GG) : xS := xu (xu (xu S 38 (.inl t.1)) 40 (.inl t.2.1)) 42 (.inl t.2.2)
theorem gput_38 (S : xS) (t : GG) : gput S t 38 = some (.inl t.1) := by simp [gput, xu]
theorem gput_40 (S : xS) (t : GG) : gput S t 40 = some (.inl t.2.1) := by simp [gput, xu]
theorem gput_42 (S : xS) (t : GG) : gput S t 42 = some (.inl t.2.2) := by simp [gput, xu]
theorem gput_ne (S : xS) (t : GG) {q : Nat} (h : q ≠ 38 ∧ q ≠ 40 ∧ q ≠ 42) : gput S t q = S q := by simp [gput, xu, h]
theorem gput_s38 (S : xS) (t : GG) (x : List Int32) : xu (gput S t) 38 (.inl x) = gput S (x, t.2) := by
  funext q; unfold gput xu
  by_cases h1 : q = 38 <;> by_cases h2 : q = 40 <;> by_cases h3 : q = 42 <;> simp_all
theorem gput_s40 (S : xS) (t : GG) (x : List Int32) : xu (gput S t) 40 (.inl x) = gput S (t.1, x, t.2.2) := by
  funext q; unfold gput xu
  by_cases h1 : q = 38 <;> by_cases h2 : q = 40 <;> by_cases h3 : q = 42 <;> simp_all
theorem gput_s42 (S : xS) (t : GG) (x : List Int32) : xu (gput S t) 42 (.inl x) = gput S (t.1, t.2.1, x) := by
  funext q; unfold gput xu
  by_cases h1 : q = 38 <;> by_cases h2 : q = 40 <;> by_cases h3 : q = 42 <;> simp_all
theorem gput_all (S : xS) (t u : GG) : xu (xu (xu (gput S t) 38 (.inl u.1)) 40 (.inl u.2.1)) 42 (.inl u.2.2) = gput S u := by
  rw [gput_s38, gput_s40, gput_s42]
def g_dec (im : List Int32) : Nat → Nat → GG → GG
  | 0, _, t => t
  | d + 1, i, t => if nI i < nI im.length then
      (if nAt im (nI i) &&& 128 = 0 then g_dec im d (i + 1) (g_take t.1 t.2.1 t.2.2 (nAt im (nI i) &&& 127) (nAt im (nI i) >>> (8 &&& 31)))
       else g_dec im d (i + 2) (g_take t.1 t.2.1 t.2.2 (nAt im (nI i) &&& 127) (nAt im (nI i + 1)))) else t
theorem g_take_len (t : GG) (n k : Int32) : (g_take t.1 t.2.1 t.2.2 n k).1.length ≤ t.1.length + 1 ∧ (g_take t.1 t.2.1 t.2.2 n k).2.1.length ≤ t.2.1.length + 1 := by
  unfold g_take
  split <;> simp
def g_fix (pn pp : List Int32) : Nat → Nat → List Int32 → List Int32
  | 0, _, pa => pa
  | d + 1, i, pa => if nAt pn (nI i) < 20 then g_fix pn pp d (i + 1) pa else g_fix pn pp d (i + 1) (nSet pa (nI i) (nAt pp (nAt pa (nI i))))
def g_load (im : List Int32) : GG :=
  let t := g_dec im (im.length + 1) 0 ([], [], List.replicate 100 (-1))
  (t.1, g_fix t.1 t.2.2 t.1.length 0 t.2.1, t.2.2)
section XL
variable {z : Nat} {NK : List Nat} {g : mx_G} {S : xS} {P : Option Value → xS → Prop} {pn pa pp im : List Int32}
set_option maxHeartbeats 4000000 in
theorem c_load2 (h37 : S 37 = some (.inr (.inr (7, [.ref (z + 38), .ref (z + 40), .ref (z + 42)])))) (h31 : S 31 = some (.inl im)) {pn2 pa3 pp2 : List Int32} (hb : pn2.length < 131072) (hP : P none (gput S (pn2, g_fix pn2 pp2 pn2.length 0 pa3, pp2))) : xw z NK g 35 84 [(0, .ref (z + 37)), (1, .ref (z + 31)), (2, .int 0)] [] (gput S (pn2, pa3, pp2)) P := by
  have loop2 : ∀ (d i : Nat) (hi : i + d = pn2.length) (pa2 : List Int32) (hP : P none (gput S (pn2, g_fix pn2 pp2 d i pa2, pp2))), xw z NK g 35 84 [(0, .ref (z + 37)), (1, .ref (z + 31)), (2, .int (nI i))] [] (gput S (pn2, pa2, pp2)) P := by
    intro d
    induction d with
    | zero =>
      intro i hi pa2 hP
      refine xw.steps 2 (fun _ => rfl) ?_
      refine xw.getf (o := 37) rfl ((gput_ne _ _ (by decide)).trans h37) rfl ?_
      show xw z NK g 35 89 [(0, .ref (z + 37)), (1, .ref (z + 31)), (2, .int (nI i))] [.ref (z + 38), .int (nI i)] (gput S (pn2, pa2, pp2)) P
      refine xw.callN (o := 38) rfl rfl rfl (gput_38 _ _) rfl rfl (c_size (gput_38 _ _) ?_)
      show xw z NK g 35 92 [(0, .ref (z + 37)), (1, .ref (z + 31)), (2, .int (nI i))] [.int (nI pn2.length), .int (nI i)] (gput S (pn2, pa2, pp2)) P
      refine xw.icmp rfl (fun c1 => ?_) (fun c1 => ?_)
      · have c1 := Int32.not_lt.mpr (of_decide_eq_true c1)
        refine xw.ret rfl (fun _ => rfl) ?_
        show P none (gput S (pn2, pa2, pp2))
        exact hP
      · have c1 := Int32.not_le.mp (of_decide_eq_false c1)
        show xw z NK g 35 95 [(0, .ref (z + 37)), (1, .ref (z + 31)), (2, .int (nI i))] [] (gput S (pn2, pa2, pp2)) P
        exact absurd c1 (nI_nlt (by omega) (by omega))
    | succ d ih =>
      intro i hi pa2 hP
      refine xw.steps 2 (fun _ => rfl) ?_
      refine xw.getf (o := 37) rfl ((gput_ne _ _ (by decide)).trans h37) rfl ?_
      show xw z NK g 35 89 [(0, .ref (z + 37)), (1, .ref (z + 31)), (2, .int (nI i))] [.ref (z + 38), .int (nI i)] (gput S (pn2, pa2, pp2)) P
      refine xw.callN (o := 38) rfl rfl rfl (gput_38 _ _) rfl rfl (c_size (gput_38 _ _) ?_)
      show xw z NK g 35 92 [(0, .ref (z + 37)), (1, .ref (z + 31)), (2, .int (nI i))] [.int (nI pn2.length), .int (nI i)] (gput S (pn2, pa2, pp2)) P
      refine xw.icmp rfl (fun c1 => ?_) (fun c1 => ?_)
      · have c1 := Int32.not_lt.mpr (of_decide_eq_true c1)
        show xw z NK g 35 137 [(0, .ref (z + 37)), (1, .ref (z + 31)), (2, .int (nI i))] [] (gput S (pn2, pa2, pp2)) P
        exact absurd (nI_lt (by omega) (by omega)) c1
      · have c1 := Int32.not_le.mp (of_decide_eq_false c1)
        refine xw.steps 1 (fun _ => rfl) ?_
        refine xw.getf (o := 37) rfl ((gput_ne _ _ (by decide)).trans h37) rfl ?_
        refine xw.steps 1 (fun _ => rfl) ?_
        show xw z NK g 35 100 [(0, .ref (z + 37)), (1, .ref (z + 31)), (2, .int (nI i))] [.int (nI i), .ref (z + 38)] (gput S (pn2, pa2, pp2)) P
        refine xw.callN (o := 38) rfl rfl rfl (gput_38 _ _) rfl rfl (c_at (gput_38 _ _) ?_)
        show xw z NK g 35 103 [(0, .ref (z + 37)), (1, .ref (z + 31)), (2, .int (nI i))] [.int (nAt pn2 (nI i))] (gput S (pn2, pa2, pp2)) P
        refine xw.steps 1 (fun _ => rfl) ?_
        refine xw.icmp rfl (fun c2 => ?_) (fun c2 => ?_)
        · have c2 := of_decide_eq_true c2
          refine xw.steps 2 (fun _ => rfl) ?_
          show xw z NK g 35 84 [(0, .ref (z + 37)), (1, .ref (z + 31)), (2, .int ((nI i) + 1))] [] (gput S (pn2, pa2, pp2)) P
          rw [nI_1]
          exact ih (i + 1) (by omega) _ (by first | simpa [g_fix, c1, c2] using hP | simp_all [g_fix])
        · have c2 := of_decide_eq_false c2
          refine xw.steps 1 (fun _ => rfl) ?_
          refine xw.getf (o := 37) rfl ((gput_ne _ _ (by decide)).trans h37) rfl ?_
          refine xw.steps 2 (fun _ => rfl) ?_
          refine xw.getf (o := 37) rfl ((gput_ne _ _ (by decide)).trans h37) rfl ?_
          refine xw.steps 1 (fun _ => rfl) ?_
          refine xw.getf (o := 37) rfl ((gput_ne _ _ (by decide)).trans h37) rfl ?_
          refine xw.steps 1 (fun _ => rfl) ?_
          show xw z NK g 35 122 [(0, .ref (z + 37)), (1, .ref (z + 31)), (2, .int (nI i))] [.int (nI i), .ref (z + 40), .ref (z + 42), .int (nI i), .ref (z + 40)] (gput S (pn2, pa2, pp2)) P
          refine xw.callN (o := 40) rfl rfl rfl (gput_40 _ _) rfl rfl (c_at (gput_40 _ _) ?_)
          show xw z NK g 35 125 [(0, .ref (z + 37)), (1, .ref (z + 31)), (2, .int (nI i))] [.int (nAt pa2 (nI i)), .ref (z + 42), .int (nI i), .ref (z + 40)] (gput S (pn2, pa2, pp2)) P
          show xw z NK g 35 125 [(0, .ref (z + 37)), (1, .ref (z + 31)), (2, .int (nI i))] [.int (nAt pa2 (nI i)), .ref (z + 42), .int (nI i), .ref (z + 40)] (gput S (pn2, pa2, pp2)) P
          refine xw.callN (o := 42) rfl rfl rfl (gput_42 _ _) rfl rfl (c_at (gput_42 _ _) ?_)
          show xw z NK g 35 128 [(0, .ref (z + 37)), (1, .ref (z + 31)), (2, .int (nI i))] [.int (nAt pp2 (nAt pa2 (nI i))), .int (nI i), .ref (z + 40)] (gput S (pn2, pa2, pp2)) P
          show xw z NK g 35 128 [(0, .ref (z + 37)), (1, .ref (z + 31)), (2, .int (nI i))] [.int (nAt pp2 (nAt pa2 (nI i))), .int (nI i), .ref (z + 40)] (gput S (pn2, pa2, pp2)) P
          refine xw.callN (o := 40) rfl rfl rfl (gput_40 _ _) rfl rfl (c_change (gput_40 _ _) ?_)
          show xw z NK g 35 131 [(0, .ref (z + 37)), (1, .ref (z + 31)), (2, .int (nI i))] [] (xu (gput S (pn2, pa2, pp2)) 40 (.inl (nSet pa2 (nI i) (nAt pp2 (nAt pa2 (nI i)))))) P
          rw [gput_s40]
          refine xw.steps 2 (fun _ => rfl) ?_
          show xw z NK g 35 84 [(0, .ref (z + 37)), (1, .ref (z + 31)), (2, .int ((nI i) + 1))] [] (gput S (pn2, (nSet pa2 (nI i) (nAt pp2 (nAt pa2 (nI i)))), pp2)) P
          rw [nI_1]
          exact ih (i + 1) (by omega) _ (by first | simpa [g_fix, c1, c2] using hP | simp_all [g_fix])
  exact loop2 pn2.length 0 (by omega) pa3 hP
end XL
