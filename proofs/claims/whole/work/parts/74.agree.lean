/-! THE JUDGE's ways: found to agree just where they do -/
theorem ways_ref {c : List II} {pl : List Int32} (hS : SD c pl) (hc : c.length < 2 ^ 27) : ∀ (d : Nat) (ds : List Int32) (s : WS) (Pr : List Nat), RD c.length ds s.1 → WI c s Pr →
    RD c.length (j_ways (up c).1 (up c).2 pl d ds (s.2.map nI)).1 (aWays c d s).1.1 ∧ (j_ways (up c).1 (up c).2 pl d ds (s.2.map nI)).2.1 = (aWays c d s).1.2.map nI ∧ (j_ways (up c).1 (up c).2 pl d ds (s.2.map nI)).2.2 = (aWays c d s).2 := by
  intro d
  induction d with
  | zero => intro ds s Pr hR _; exact ⟨hR, rfl, rfl⟩
  | succ d ih =>
    intro ds s Pr hR hw
    rw [j_ways, aWays]
    by_cases hW : s.2 = []
    · rw [if_pos hW, hW]
      rw [if_neg (show ¬ (0 : Int32) < nI (([] : List Nat).map nI).length by decide)]
      exact ⟨hR, rfl, rfl⟩
    · rw [if_neg hW]
      obtain ⟨D, W⟩ := s
      simp only at hW hR hw ⊢
      have hsp : W = W.dropLast ++ [W.getLast hW] := (List.dropLast_concat_getLast hW).symm
      have hgl : W.getLast?.getD 0 = W.getLast hW := by rw [List.getLast?_eq_some_getLast hW]; rfl
      have hlen : W.length ≤ c.length := by
        have hlt : ∀ i ∈ W, i < c.length := by
          intro i hi
          cases hv : D i with
          | none => exact absurd hv (hw.2.2.2.2.1 i hi)
          | some h => exact (hw.1 i h hv).2.1
        have := hw.2.2.2.1
        rw [List.nodup_append] at this
        exact nodup_len this.2.1 hlt
      have hpos : 0 < W.length := List.length_pos_iff.mpr hW
      have e1 : nLast (W.map nI) = nI (W.getLast hW) := by
        unfold nLast
        rw [List.getLast?_map, List.getLast?_eq_some_getLast hW]
        rfl
      have e2 : (W.map nI).dropLast = W.dropLast.map nI := (List.map_dropLast ..).symm
      rw [hgl, if_pos (show (0 : Int32) < nI (W.map nI).length by rw [List.length_map, ← nI_0]; exact nI_lt hpos (by omega)), e1, e2]
      generalize W.getLast hW = i at *
      rw [hsp] at hw
      generalize W.dropLast = W' at *
      have hi : ∃ h, D i = some h := by
        cases hv : D i with
        | none => exact absurd hv (hw.2.2.2.2.1 i (by simp))
        | some h => exact ⟨h, rfl⟩
      obtain ⟨h, hi⟩ := hi
      rw [hi]
      simp only [Option.getD_some]
      obtain ⟨s1, -⟩ := aLv_step hw hi
      obtain ⟨l1, l2, l3⟩ := leave_ref (s := (D, W')) hS hc hR (hw.1 i h hi).2.1 hi
      simp only at l1 l2 l3
      rw [l3, l2]
      by_cases ct : (aLv c (D, W') i h).2 = true
      · rw [if_pos ct, if_pos ct]
        exact ih _ _ (i :: Pr) l1 (s1 ct)
      · rw [if_neg ct, if_neg ct]
        exact ⟨l1, rfl, rfl⟩
theorem nAt_rep {n i : Nat} {v : Int32} (h : i < n) (hn : n < 2 ^ 31) : nAt (List.replicate n v) (nI i) = v := by
  rw [nAt_nat (by omega), List.getD_eq_getElem?_getD, List.getElem?_replicate, if_pos h]
  rfl
theorem judge_ways {c : List II} {pl : List Int32} (hS : SD c pl) (hc : c.length < 2 ^ 27) (h0 : 0 < c.length) :
    ((j_ways (up c).1 (up c).2 pl c.length (j_arrD (List.replicate c.length (-1)) 0 0) (j_arrW (List.replicate c.length (-1)) [] 0)).2.2 = true →
      ∃ D, RD c.length (j_ways (up c).1 (up c).2 pl c.length (j_arrD (List.replicate c.length (-1)) 0 0) (j_arrW (List.replicate c.length (-1)) [] 0)).1 D ∧ OkH c D ∧ ∀ i h, D i = some h → (∃ k, Rch c k i h) ∧ i < c.length ∧ h ≤ 60) ∧
    ((j_ways (up c).1 (up c).2 pl c.length (j_arrD (List.replicate c.length (-1)) 0 0) (j_arrW (List.replicate c.length (-1)) [] 0)).2.2 = false → ¬ ∃ H, OkH c H) := by
  have hR0 : RD c.length (List.replicate c.length (-1)) ((fun _ => none, []) : WS).1 := ⟨by simp, fun i hi => nAt_rep hi (by omega), fun i h w => (by cases w)⟩
  obtain ⟨a1, a2, -⟩ := arr_ref (s := (fun _ => none, [])) (j := 0) (h := 0) hR0 (by omega) (by omega) (by omega)
  have ea : aArr c.length ((fun _ => none, []) : WS) 0 0 = ((fun q => if q = 0 then some 0 else none, [0]), true) := by
    unfold aArr
    rw [if_neg (by omega)]
    rfl
  rw [ea] at a1 a2
  have e0 : nI 0 = 0 := rfl
  rw [e0] at a1 a2
  have hw : WI c ((fun q => if q = 0 then some 0 else none, [0]) : WS) [] := by
    refine ⟨fun i h hi => ?_, fun i h hi => ?_, fun i hi => (by cases hi), (by simp), fun i hi => ?_, rfl⟩
    · simp only at hi
      by_cases e : i = 0
      · subst e; rw [if_pos rfl] at hi; cases hi; exact ⟨⟨0, rfl, rfl⟩, h0, by omega⟩
      · rw [if_neg e] at hi; cases hi
    · simp only at hi
      by_cases e : i = 0
      · subst e; left; simp
      · rw [if_neg e] at hi; cases hi
    · rw [List.mem_singleton.mp hi]; simp
  have a2 : j_arrW (List.replicate c.length (-1)) [] 0 = [0].map nI := a2
  rw [a2]
  obtain ⟨b1, -, b3⟩ := ways_ref hS hc c.length _ (fun q => if q = 0 then some 0 else none, [0]) [] a1 hw
  obtain ⟨d1, d2⟩ := aWays_ok (c := c) c.length (fun q => if q = 0 then some 0 else none, [0]) [] hw (by simp)
  simp only at b1 b3
  rw [b3]
  exact ⟨fun w => ⟨_, b1, d1 w⟩, d2⟩
