/-! THE REFERENCE: the loop of run -/
theorem nx_h {c : List II} {D : Nat → Option Nat} {i h j : Nat} (hOk : OkH c D) (hi : D i = some h) (hn : nxt c i = some j) : D j = some (h - tkn (nb c i) + gvn (nb c i)) := by
  refine ((hOk.2 i h hi).2 (j, h - tkn (nb c i) + gvn (nb c i)) ?_).2.2
  simp [succs, hn]
theorem gl_h {c : List II} {D : Nat → Option Nat} {i h j : Nat} (hOk : OkH c D) (hi : D i = some h) (hn : gol c i = some j) : D j = some (h - tkn (nb c i)) := by
  refine ((hOk.2 i h hi).2 (j, h - tkn (nb c i)) ?_).2.2
  simp [succs, hn]
theorem nx_1 {c : List II} {q : Nat} (h1 : t_ends (nb c q) = false) (h2 : ¬ nb c q = 18) : nxt c q = some (q + 1) := by
  unfold nxt; rw [h1, if_neg (by decide), if_neg h2]
theorem num_cases {n : Int32} (hn : ¬ n < 0 ∧ n < 21) : (n = 10 ∨ n = 11 ∨ n = 12 ∨ n = 15 ∨ n = 16 ∨ n = 17 ∨ n = 18) ∨ (n = 0 ∨ n = 1 ∨ n = 2 ∨ n = 3 ∨ n = 4 ∨ n = 5 ∨ n = 6 ∨ n = 7 ∨ n = 8 ∨ n = 9 ∨ n = 13 ∨ n = 14 ∨ n = 19 ∨ n = 20) := by
  obtain ⟨j, hj, rfl⟩ := nI_of hn.1
  have hj2 : j < 21 := (nI_ltI hj (by omega)).mp hn.2
  have hcases : j = 0 ∨ j = 1 ∨ j = 2 ∨ j = 3 ∨ j = 4 ∨ j = 5 ∨ j = 6 ∨ j = 7 ∨ j = 8 ∨ j = 9 ∨ j = 10 ∨ j = 11 ∨ j = 12 ∨ j = 13 ∨ j = 14 ∨ j = 15 ∨ j = 16 ∨ j = 17 ∨ j = 18 ∨ j = 19 ∨ j = 20 := by omega
  rcases hcases with rfl | rfl | rfl | rfl | rfl | rfl | rfl | rfl | rfl | rfl | rfl | rfl | rfl | rfl | rfl | rfl | rfl | rfl | rfl | rfl | rfl <;> decide
section MOC
variable {Bk : xS} {z : Nat} {NK : List Nat} {g : mx_G} {P : Option Value → xS → Prop} {th wi : Int32} {nu ag he go : Nat → Int32} {c : List II} {D : Nat → Option Nat}
theorem mloop (hC : CO c nu ag) (hn : c.length ≤ 400) (hf : fitA c) (hLU : LU c) (hjp : ∀ k, goals c k → ∃ t, after c k = some t) (h18 : ∀ i, nb c i = 18 → nb c (i + 1) = 12) (hOk : OkH c D) (hSo : Sound c D) :
    ∀ (n r q d : Nat) (st lo wo ro : Nat → Int32) (fu : Int32) (S : xS) (R : Rz), c.length - q = r → D q = some d → Rp d ro st → MO Bk z S th (nI c.length) 0 fu (nI d) nu ag lo wo he go ro → fk (Lv c n) (c.drop q) bot (st, none, lo, wo, fu) = some R → (∀ S' hg' ro', MO Bk z S' th (nI c.length) R.2.1 R.2.2.1 hg' nu ag R.2.2.2.1 R.2.2.2.2 he go ro' → P (some (.int R.1)) S') → xw z NK g 139 42 [(0, .ref (z + 52)), (1, .int wi), (2, .int (nI q))] [] S P := by
  have hplg : ∀ k, goals c k → ∃ j, plc c k = some j := by
    intro k hk
    obtain ⟨t, ht⟩ := hjp k hk
    exact ⟨c.length - t.length - 1, by unfold plc; rw [ht]; rfl⟩
  intro n
  induction n using Nat.strongRecOn with
  | ind n ihn =>
  intro r
  induction r using Nat.strongRecOn with
  | ind r ihr =>
  intro q d st lo wo ro fu S R hr hD hRp hM hF hP
  obtain ⟨-, hq, hd60⟩ := hSo q d hD
  have hfi : fit2 (nb c q) (ar c q) := hf _ (nb_mem hq)
  have htk := (hOk.2 q d hD).1
  have h18q : nb c q = 18 → q + 1 < c.length := by
    intro w
    have h12 := h18 q w
    rcases Nat.lt_or_ge (q + 1) c.length with w | w
    · exact w
    · rw [nb_out w] at h12; exact absurd h12 (by decide)
  rw [drop_q0 hq] at hF
  have hF : one (Lv c n) (nb c q, ar c q) (fk (Lv c n) (c.drop (q + 1)) bot) (st, none, lo, wo, fu) = some R := hF
  have goN : ∀ (j d' : Nat) (st' lo' wo' ro' : Nat → Int32) (fu' : Int32) (S' : xS), nxt c q = some j → q < j → d' = d - tkn (nb c q) + gvn (nb c q) → Rp d' ro' st' → MO Bk z S' th (nI c.length) 0 fu' (nI d') nu ag lo' wo' he go ro' → fk (Lv c n) (c.drop j) bot (st', none, lo', wo', fu') = some R → xw z NK g 139 42 [(0, .ref (z + 52)), (1, .int wi), (2, .int (nI j))] [] S' P := by
    intro j d' st' lo' wo' ro' fu' S' h0 hj h1 h2 h3 h4
    exact ihr (c.length - j) (by omega) j d' st' lo' wo' ro' fu' S' R rfl (by rw [h1]; exact nx_h hOk hD h0) h2 h3 h4 hP
  have goL : ∀ (k : Int32) (p d' : Nat) (st' lo' wo' ro' : Nat → Int32) (fu' : Int32) (S' : xS), plc c k = some p → D p = some d' → Rp d' ro' st' → MO Bk z S' th (nI c.length) 0 fu' (nI d') nu ag lo' wo' he go ro' → Lv c n k (st', none, lo', wo', fu') = some R → xw z NK g 139 42 [(0, .ref (z + 52)), (1, .int wi), (2, .int (nI p))] [] S' P := by
    intro k p d' st' lo' wo' ro' fu' S' hp h1 h2 h3 h4
    have hpl := plc_lt hp
    have e13 : nb c p = 13 ∧ ar c p = k := by unfold nb ar; rw [plc_nb hp]; exact ⟨rfl, rfl⟩
    have ha := (plc_self hLU hpl e13.1).2
    rw [e13.2] at ha
    cases n with
    | zero => exact absurd h4 (fun w => by cases w)
    | succ n' =>
      rw [Lv_succ ha] at h4
      refine ihn n' (by omega) _ p d' st' lo' wo' ro' fu' S' R rfl h1 h2 h3 ?_ hP
      rw [drop_q0 hpl, plc_nb hp]
      exact (one_13 (Lv c n') (fk (Lv c n') (c.drop (p + 1)) bot) st' lo' wo' fu' k).trans h4
  have hh : nb c q = 11 ∨ nb c q = 12 ∨ nb c q = 18 → 1 ≤ d := by
    intro w
    have t1 : tkn 11 = 1 := by decide
    have t2 : tkn 12 = 1 := by decide
    have t3 : tkn 18 = 1 := by decide
    rcases w with w | w | w <;> rw [w] at htk <;> omega
  have trn : (nb c q = 10 ∨ nb c q = 11 ∨ nb c q = 12 ∨ nb c q = 18) → (∀ S2, MO Bk z S2 th (nI c.length) 0 fu (nI (gohi c q (ro (d - 1)) d)) nu ag lo wo he go ro → xw z NK g 139 42 [(0, .ref (z + 52)), (1, .int wi), (2, .int (gonx c q (ro (d - 1))))] [] S2 P) → xw z NK g 139 42 [(0, .ref (z + 52)), (1, .int wi), (2, .int (nI q))] [] S P := by
    intro hj hk
    have n16 : ¬ nb c q = 16 := by rcases hj with w | w | w | w <;> rw [w] <;> decide
    have n17 : ¬ nb c q = 17 := by rcases hj with w | w | w | w <;> rw [w] <;> decide
    have n15 : ¬ nb c q = 15 := by rcases hj with w | w | w | w <;> rw [w] <;> decide
    refine mt_head hM hC hn hq n16 n17 (fun w => absurd w n15) (fun S' h => ?_)
    rw [if_neg n15, Int32.sub_zero] at h
    rcases hj with w | w | w | w
    · rw [w]; exact xw.callO (o := 52) rfl rfl rfl h.1 rfl rfl (c_does10 h (mu_on h hC hn hq hh (by omega) h18q hk))
    · rw [w]; exact xw.callO (o := 52) rfl rfl rfl h.1 rfl rfl (c_does11 h (mu_on h hC hn hq hh (by omega) h18q hk))
    · rw [w]; exact xw.callO (o := 52) rfl rfl rfl h.1 rfl rfl (c_does12 h (mu_on h hC hn hq hh (by omega) h18q hk))
    · rw [w]; exact xw.callO (o := 52) rfl rfl rfl h.1 rfl rfl (c_does18 h (mu_on h hC hn hq hh (by omega) h18q hk))
  have gpl : t_goes (nb c q) = true → ¬ nb c q = 18 → ∃ p, plc c (ar c q) = some p ∧ D p = some (d - tkn (nb c q)) := by
    intro h1 h2
    obtain ⟨p, hp⟩ := hplg (ar c q) ⟨nb c q, h1, nb_mem hq⟩
    exact ⟨p, hp, gl_h hOk hD (by unfold gol; rw [if_neg h2, if_pos h1]; exact hp)⟩
  rcases num_cases hfi.1 with hx | hx
  · rcases hx with hx | hx | hx | hx | hx | hx | hx
    · rw [hx, one_10] at hF
      obtain ⟨p, hp, hDp⟩ := gpl (by rw [hx]; rfl) (by rw [hx]; decide)
      rw [hx, show tkn 10 = 0 by decide] at hDp
      refine trn (.inl hx) (fun S2 h2 => ?_)
      have e1 : gonx c q (ro (d - 1)) = nI p := by unfold gonx; rw [if_pos hx, hp]; rfl
      have e2 : gohi c q (ro (d - 1)) d = d := by unfold gohi; rw [hx]; rfl
      rw [e1]; rw [e2] at h2
      exact goL _ p d st lo wo ro fu S2 hp hDp hRp h2 hF
    · have h1 := hh (.inl hx)
      obtain ⟨m, rfl⟩ : ∃ m, d = m + 1 := ⟨d - 1, by omega⟩
      have r0 := rp_at (j := 0) hRp m rfl
      rw [hx, one_11] at hF
      refine trn (.inr (.inl hx)) (fun S2 h2 => ?_)
      have e2 : gohi c q (ro (m + 1 - 1)) (m + 1) = m := by unfold gohi; rw [if_pos (.inl hx)]; rfl
      rw [e2] at h2
      by_cases cc : st 0 = 0
      · rw [if_pos cc] at hF
        obtain ⟨p, hp, hDp⟩ := gpl (by rw [hx]; rfl) (by rw [hx]; decide)
        rw [hx, show tkn 11 = 1 by decide] at hDp
        have e1 : gonx c q (ro (m + 1 - 1)) = nI p := by unfold gonx; rw [if_neg (by rw [hx]; decide), if_pos (.inl hx), if_pos ⟨fun _ => hx, fun _ => r0.trans cc⟩, hp]; rfl
        rw [e1]
        exact goL _ p m _ lo wo ro fu S2 hp hDp (rp_pop hRp) h2 hF
      · rw [if_neg cc] at hF
        have e1 : gonx c q (ro (m + 1 - 1)) = nI (q + 1) := by unfold gonx; rw [if_neg (by rw [hx]; decide), if_pos (.inl hx), if_neg (fun w => cc (r0.symm.trans (w.mpr hx)))]
        rw [e1]
        exact goN (q + 1) m _ lo wo ro fu S2 (nx_1 (by rw [hx]; rfl) (by rw [hx]; decide)) (by omega) (by rw [hx, show tkn 11 = 1 by decide, show gvn 11 = 0 by decide]; omega) (rp_pop hRp) h2 hF
    · have h1 := hh (.inr (.inl hx))
      obtain ⟨m, rfl⟩ : ∃ m, d = m + 1 := ⟨d - 1, by omega⟩
      have r0 := rp_at (j := 0) hRp m rfl
      rw [hx, one_12] at hF
      have n11 : ¬ nb c q = 11 := by rw [hx]; decide
      refine trn (.inr (.inr (.inl hx))) (fun S2 h2 => ?_)
      have e2 : gohi c q (ro (m + 1 - 1)) (m + 1) = m := by unfold gohi; rw [if_pos (.inr (.inl hx))]; rfl
      rw [e2] at h2
      by_cases cc : st 0 = 0
      · rw [if_pos cc] at hF
        have e1 : gonx c q (ro (m + 1 - 1)) = nI (q + 1) := by unfold gonx; rw [if_neg (by rw [hx]; decide), if_pos (.inr hx), if_neg (fun w => n11 (w.mp (r0.trans cc)))]
        rw [e1]
        exact goN (q + 1) m _ lo wo ro fu S2 (nx_1 (by rw [hx]; rfl) (by rw [hx]; decide)) (by omega) (by rw [hx, show tkn 12 = 1 by decide, show gvn 12 = 0 by decide]; omega) (rp_pop hRp) h2 hF
      · rw [if_neg cc] at hF
        obtain ⟨p, hp, hDp⟩ := gpl (by rw [hx]; rfl) (by rw [hx]; decide)
        rw [hx, show tkn 12 = 1 by decide] at hDp
        have e1 : gonx c q (ro (m + 1 - 1)) = nI p := by unfold gonx; rw [if_neg (by rw [hx]; decide), if_pos (.inr hx), if_pos ⟨fun w => absurd (r0.symm.trans w) cc, fun w => absurd w n11⟩, hp]; rfl
        rw [e1]
        exact goL _ p m _ lo wo ro fu S2 hp hDp (rp_pop hRp) h2 hF
    · by_cases hz : fu = 0
      · rw [hx, one_15, if_pos hz] at hF
        obtain rfl := Option.some.inj hF
        exact mu_15 hM hC hn hq hx hz (hP S _ _ hM)
      · rw [hx, one_15, if_neg hz] at hF
        refine mt_head hM hC hn hq (by rw [hx]; decide) (by rw [hx]; decide) (fun _ => hz) (fun S' h => ?_)
        rw [if_pos hx] at h
        rw [hx]
        refine xw.callO (o := 52) rfl rfl rfl h.1 rfl rfl (c_does15 h ?_)
        refine mu_on h hC hn hq hh (by omega) h18q (fun S2 h2 => ?_)
        have e1 : gonx c q (ro (d - 1)) = nI (q + 1) := by unfold gonx; rw [hx]; rfl
        have e2 : gohi c q (ro (d - 1)) d = d := by unfold gohi; rw [hx]; rfl
        rw [e1]; rw [e2] at h2
        exact goN (q + 1) d st lo wo ro (fu - 1) S2 (nx_1 (by rw [hx]; rfl) (by rw [hx]; decide)) (by omega) (by rw [hx, show tkn 15 = 0 by decide, show gvn 15 = 0 by decide]; rfl) hRp h2 hF
    · rw [hx, one_16] at hF
      obtain rfl := Option.some.inj hF
      have ht : tkn 16 = 1 := by decide
      rw [hx, ht] at htk
      obtain ⟨m, rfl⟩ : ∃ m, d = m + 1 := ⟨d - 1, by omega⟩
      exact mu_16 hM hC hn hq (by omega) hx (fun S' h => hP S' _ _ (by rw [rp_at (j := 0) hRp m rfl] at h; exact h))
    · rw [hx, one_17] at hF
      obtain rfl := Option.some.inj hF
      exact mu_17 hM hC hn hq hx (hP S _ _ hM)
    · have h1 := hh (.inr (.inr hx))
      obtain ⟨m, rfl⟩ : ∃ m, d = m + 1 := ⟨d - 1, by omega⟩
      have r0 : ro (m + 1 - 1) = st 0 := rp_at (j := 0) hRp m rfl
      have h12 := h18 q hx
      have hq2 := h18q hx
      have eq1 : q0 c (q + 1) = (nb c (q + 1), ar c (q + 1)) := rfl
      rw [drop_q0 hq2, eq1, h12, hx] at hF
      have hF : one (Lv c n) (18, ar c q) (one (Lv c n) (12, ar c (q + 1)) (fk (Lv c n) (c.drop (q + 1 + 1)) bot)) (st, none, lo, wo, fu) = some R := hF
      rw [one_18, one_12p] at hF
      refine trn (.inr (.inr (.inr hx))) (fun S2 h2 => ?_)
      have n10 : ¬ nb c q = 10 := by rw [hx]; decide
      have n11 : ¬ (nb c q = 11 ∨ nb c q = 12) := by rw [hx]; decide
      by_cases cc : st 0 = ar c q
      · rw [if_pos cc] at hF
        obtain ⟨p, hp⟩ := hplg (ar c (q + 1)) ⟨nb c (q + 1), by rw [h12]; rfl, nb_mem hq2⟩
        have hDp := gl_h hOk hD (show gol c q = some p by unfold gol; rw [if_pos hx]; exact hp)
        rw [hx, show tkn 18 = 1 by decide] at hDp
        have e1 : gonx c q (ro (m + 1 - 1)) = nI p := by unfold gonx; rw [if_neg n10, if_neg n11, if_pos hx, if_pos (r0.trans cc), hp]; rfl
        have e2 : gohi c q (ro (m + 1 - 1)) (m + 1) = m := by unfold gohi; rw [if_pos (.inr (.inr ⟨hx, r0.trans cc⟩))]; rfl
        rw [e1]; rw [e2] at h2
        exact goL _ p m _ lo wo ro fu S2 hp hDp (rp_pop hRp) h2 hF
      · rw [if_neg cc] at hF
        have e1 : gonx c q (ro (m + 1 - 1)) = nI (q + 2) := by unfold gonx; rw [if_neg n10, if_neg n11, if_pos hx, if_neg (fun w => cc (r0.symm.trans w))]
        have e2 : gohi c q (ro (m + 1 - 1)) (m + 1) = m + 1 := by unfold gohi; rw [if_neg (fun w => w.elim (fun w => n11 (.inl w)) (fun w => w.elim (fun w => n11 (.inr w)) (fun w => cc (r0.symm.trans w.2))))]
        rw [e1]; rw [e2] at h2
        exact goN (q + 2) (m + 1) st lo wo ro fu S2 (by unfold nxt; rw [hx, if_neg (by decide), if_pos rfl]) (by omega) (by rw [hx, show tkn 18 = 1 by decide, show gvn 18 = 1 by decide]; omega) hRp h2 hF
  · have nJ : ∀ k : Int32, (k = 10 ∨ k = 11 ∨ k = 12 ∨ k = 15 ∨ k = 16 ∨ k = 17 ∨ k = 18) → ¬ nb c q = k := by
      rintro k hk rfl
      rcases hx with w | w | w | w | w | w | w | w | w | w | w | w | w | w <;> rw [w] at hk <;> revert hk <;> decide
    have n15 := nJ 15 (by decide)
    have hte : t_ends (nb c q) = false := by
      rcases hx with w | w | w | w | w | w | w | w | w | w | w | w | w | w <;> rw [w] <;> rfl
    refine mt_head hM hC hn hq (nJ 16 (by decide)) (nJ 17 (by decide)) (fun w => absurd w n15) (fun S' h => ?_)
    rw [if_neg n15, Int32.sub_zero] at h
    refine xw.callO (o := 52) rfl rfl rfl h.1 rfl rfl (c_does h hRp hd60 hx hfi.2.2.2.1 htk ?_)
    intro e d' st' lo' wo' ro' S2 h2 hz
    rcases hz with ⟨rfl, hd', hR', ho⟩ | ⟨he, rfl, rfl, ho⟩
    · rw [ho] at hF
      have n18 := nJ 18 (by decide)
      have nK : ¬ (nb c q = 11 ∨ nb c q = 12 ∨ nb c q = 18) := fun w => w.elim (nJ 11 (by decide)) (fun w => w.elim (nJ 12 (by decide)) n18)
      have hb : d' ≤ 60 := (hSo (q + 1) d' (by rw [hd']; exact nx_h hOk hD (nx_1 hte n18))).2.2
      refine mu_on h2 hC hn hq (fun w => absurd w nK) (by omega) h18q (fun S3 h3 => ?_)
      have e1 : gonx c q (ro' (d' - 1)) = nI (q + 1) := by unfold gonx; rw [if_neg (nJ 10 (by decide)), if_neg (fun w => w.elim (nJ 11 (by decide)) (nJ 12 (by decide))), if_neg n18]
      have e2 : gohi c q (ro' (d' - 1)) d' = d' := by unfold gohi; rw [if_neg (fun w => nK (w.imp id (fun w => w.imp id And.left)))]
      rw [e1]; rw [e2] at h3
      exact goN (q + 1) d' st' lo' wo' ro' fu S3 (nx_1 hte n18) (by omega) hd' hR' h3 hF
    · rw [ho] at hF
      obtain rfl := Option.some.inj hF
      exact mu_off (by rcases he with rfl | rfl <;> decide) (hP S2 _ _ h2)
end MOC
