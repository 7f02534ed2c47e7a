/-! THE LAW'S STEPS, each object on its side -/
abbrev lawJ (c : List II) (pj ds : List Int32) (b : Bool) : Prop := (b = true ↔ Right c) ∧ (b = true → (∀ k, ¬ k < 0 → k < 100 → nAt pj k = oI (plc c k)) ∧ ∃ D, RD c.length ds D ∧ OkH c D ∧ Sound c D ∧ Acy c D)
/-- RowCode's side -/
def lawR (z : Nat) (S : xS) (c : List II) (va fu : Int32) (lo wo : Nat → Int32) : Prop :=
  ∃ (pj ds cm wt : List Int32) (jd : Int32) (b : Bool) (pl us fs ga ns as : List Int32) (t : TT) (gg : GG) (m : MM) (ld : Int32),
    OS S z S (up c).1 (up c).2 pj ds cm wt jd (bI b) pl us fs ga ns as t gg m ld ∧ m.1.length = 60 ∧ m.2.2.2.2.2.1 = va ∧ m.2.2.2.2.2.2.1 = fu ∧ m.2.2.2.2.2.2.2.1 = lo ∧ m.2.2.2.2.2.2.2.2 = wo ∧
    (¬ jd = 0 → lawJ c pj ds b) ∧ (¬ ld = 0 → ¬ jd = 0 ∧ gg = gof (up c).1 (up c).2 pj ds)
/-- the reference's side -/
def lawM (z : Nat) (S : xS) (c : List II) (th va fu : Int32) (lo wo : Nat → Int32) : Prop :=
  ∃ (hg : Int32) (nu ag he go ro : Nat → Int32), MO S z S th (nI c.length) va fu hg nu ag lo wo he go ro ∧ CO c nu ag
theorem OS_re {Bk : xS} {z : Nat} {S : xS} {xs ys pj ds cm wt : List Int32} {jd rt : Int32} {pl us fs ga ns as : List Int32} {t : TT} {gg : GG} {m : MM} {ld : Int32} (h : OS Bk z S xs ys pj ds cm wt jd rt pl us fs ga ns as t gg m ld) : OS S z S xs ys pj ds cm wt jd rt pl us fs ga ns as t gg m ld := by
  obtain ⟨h0, h1, h2, h3, h4, h5, h6, h7, h8, h9, h10, h11, h12, -⟩ := h
  exact ⟨h0, h1, h2, h3, h4, h5, h6, h7, h8, h9, h10, h11, h12, fun _ _ => rfl⟩
theorem MO_re {Bk : xS} {z : Nat} {S : xS} {th sz va fu hg : Int32} {nu ag lo wo he go ro : Nat → Int32} (h : MO Bk z S th sz va fu hg nu ag lo wo he go ro) : MO S z S th sz va fu hg nu ag lo wo he go ro := by
  obtain ⟨h0, h1, h2, h3, h4, h5, h6, h7, -⟩ := h
  exact ⟨h0, h1, h2, h3, h4, h5, h6, h7, fun _ _ => rfl⟩
theorem up_app (c : List II) (n k : Int32) : (up c).1 ++ [n] = (up (c ++ [(n, k)])).1 ∧ (up c).2 ++ [k] = (up (c ++ [(n, k)])).2 := by
  simp [up]
theorem up_len2 (c : List II) : (up c).2.length = (up c).1.length := by simp [up]
theorem CO_app {c : List II} {nu ag : Nat → Int32} {n k : Int32} (hC : CO c nu ag) : CO (c ++ [(n, k)]) (upd nu c.length n) (upd ag c.length k) := by
  intro i hi
  rw [List.length_append, List.length_singleton] at hi
  by_cases e : i = c.length
  · subst e
    unfold nb ar
    rw [q0_at (p := c) (t := []) (x := (n, k))]
    exact ⟨up_at' _ _ _, up_at' _ _ _⟩
  · have hi2 : i < c.length := by omega
    have e1 : q0 (c ++ [(n, k)]) i = q0 c i := by unfold q0; rw [List.getD_eq_getElem?_getD, List.getD_eq_getElem?_getD, List.getElem?_append_left hi2]
    have := hC i hi2
    unfold nb ar at this ⊢
    rw [e1]
    simpa [upd, e] using this
theorem fr_ok {c : List II} {pj ds cm wt pj' ds' cm' wt' : List Int32} {jd jd' ld : Int32} {b b' : Bool} {gg : GG} (hc : c.length ≤ 400) (hJ : ¬ jd = 0 → lawJ c pj ds b) (hG : ¬ ld = 0 → ¬ jd = 0 ∧ gg = gof (up c).1 (up c).2 pj ds)
    (h : (¬ jd = 0 ∧ pj' = pj ∧ ds' = ds ∧ cm' = cm ∧ wt' = wt ∧ jd' = jd ∧ b' = b) ∨ (jd = 0 ∧ jd' = 1 ∧ (pj', ds', cm', wt', b') = j_judge (up c).1 (up c).2 pj ds cm wt)) : lawJ c pj' ds' b' ∧ ¬ jd' = 0 ∧ (¬ ld = 0 → gg = gof (up c).1 (up c).2 pj' ds') := by
  rcases h with ⟨hj, rfl, rfl, rfl, rfl, rfl, rfl⟩ | ⟨hj, rfl, e⟩
  · exact ⟨hJ hj, hj, fun w => (hG w).2⟩
  · have k := judge_ok (c := c) (by omega) pj ds cm wt
    rw [← e] at k
    exact ⟨k, by decide, fun w => absurd hj (hG w).1⟩
theorem okl_of {c : List II} {pj ds : List Int32} (hc : c.length ≤ 400) (h : lawJ c pj ds true) : OKL (up c).1 (up c).2 pj ds := by
  obtain ⟨h1, hf, hLU, hjp, h18, -⟩ := h.1.mp rfl
  obtain ⟨hp, D, hR, o1, o2, ρ, hρ⟩ := h.2 rfl
  exact (class_run hc hf hLU hjp h18 o1 o2 hρ hp hR).1
section LAWR
variable {z : Nat} {NK : List Nat} {g : mx_G} {S : xS} {c : List II} {va fu : Int32} {lo wo : Nat → Int32}
theorem r_add {n k : Int32} (h : lawR z S c va fu lo wo) (hc : c.length < 400) : xw z NK g 104 0 [(0, .ref (z + 0)), (1, .int n), (2, .int k)] [] S (fun v S' => v = some (.int (nI (c.length + 1))) ∧ lawR z S' (c ++ [(n, k)]) va fu lo wo) := by
  obtain ⟨pj, ds, cm, wt, jd, b, pl, us, fs, ga, ns, as, t, gg, m, ld, hO, h60, e1, e2, e3, e4, hJ, hG⟩ := h
  refine c_add hO (by rw [up_len]; omega) (up_len2 c) (fun w => absurd hc (by rw [up_len] at w; exact w)) (fun _ S' hO' => ⟨by rw [up_len], ?_⟩)
  rw [(up_app c n k).1, (up_app c n k).2] at hO'
  exact ⟨pj, ds, cm, wt, 0, b, pl, us, fs, ga, ns, as, t, gg, m, 0, OS_re hO', h60, e1, e2, e3, e4, fun w => absurd rfl w, fun w => absurd rfl w⟩
theorem r_add0 {n k : Int32} (h : lawR z S c va fu lo wo) (hc : c.length = 400) : xw z NK g 104 0 [(0, .ref (z + 0)), (1, .int n), (2, .int k)] [] S (fun v S' => v = some (.int (-1)) ∧ lawR z S' c va fu lo wo) := by
  have h' := h
  obtain ⟨pj, ds, cm, wt, jd, b, pl, us, fs, ga, ns, as, t, gg, m, ld, hO, -⟩ := h
  exact c_add hO (by rw [up_len]; omega) (up_len2 c) (fun _ => ⟨rfl, h'⟩) (fun w => absurd w (by rw [up_len]; omega))
theorem r_clear (h : lawR z S c va fu lo wo) : xw z NK g 105 0 [(0, .ref (z + 0))] [] S (fun v S' => v = none ∧ lawR z S' [] va fu lo wo) := by
  obtain ⟨pj, ds, cm, wt, jd, b, pl, us, fs, ga, ns, as, t, gg, m, ld, hO, h60, e1, e2, e3, e4, hJ, hG⟩ := h
  refine c_clear hO (fun S' hO' => ⟨rfl, ?_⟩)
  exact ⟨pj, ds, cm, wt, 0, b, pl, us, fs, ga, ns, as, t, gg, m, 0, OS_re hO', h60, e1, e2, e3, e4, fun w => absurd rfl w, fun w => absurd rfl w⟩
theorem r_build (h : lawR z S c va fu lo wo) (hc : c.length ≤ 400) : xw z NK g 106 0 [(0, .ref (z + 0))] [] S (fun v S' => ∃ b : Bool, v = some (.int (bI b)) ∧ (b = true ↔ Right c) ∧ lawR z S' c va fu lo wo) := by
  obtain ⟨pj, ds, cm, wt, jd, b, pl, us, fs, ga, ns, as, t, gg, m, ld, hO, h60, e1, e2, e3, e4, hJ, hG⟩ := h
  refine c_build hO (by rw [up_len]; omega) (fun S' pj' ds' cm' wt' jd' b' hO' hcase => ?_)
  obtain ⟨k1, k2, k3⟩ := fr_ok hc hJ hG hcase
  exact ⟨b', rfl, k1.1, pj', ds', cm', wt', jd', b', pl, us, fs, ga, ns, as, t, gg, m, ld, OS_re hO', h60, e1, e2, e3, e4, fun _ => k1, fun w => ⟨k2, k3 w⟩⟩
theorem r_value (h : lawR z S c va fu lo wo) : xw z NK g 108 0 [(0, .ref (z + 0))] [] S (fun v S' => v = some (.int va) ∧ lawR z S' c va fu lo wo) := by
  have h' := h
  obtain ⟨pj, ds, cm, wt, jd, b, pl, us, fs, ga, ns, as, t, gg, m, ld, hO, h60, e1, -⟩ := h
  exact c_value hO ⟨by rw [e1], h'⟩
theorem r_fuel (h : lawR z S c va fu lo wo) : xw z NK g 109 0 [(0, .ref (z + 0))] [] S (fun v S' => v = some (.int fu) ∧ lawR z S' c va fu lo wo) := by
  have h' := h
  obtain ⟨pj, ds, cm, wt, jd, b, pl, us, fs, ga, ns, as, t, gg, m, ld, hO, h60, e1, e2, -⟩ := h
  exact c_fuel hO ⟨by rw [e2], h'⟩
theorem r_set {i v : Int32} (h : lawR z S c va fu lo wo) : xw z NK g 110 0 [(0, .ref (z + 0)), (1, .int i), (2, .int v)] [] S (fun r S' => r = some (.int (mLa lo i)) ∧ lawR z S' c va fu (mL lo i v) wo) := by
  obtain ⟨pj, ds, cm, wt, jd, b, pl, us, fs, ga, ns, as, t, gg, m, ld, hO, h60, e1, e2, e3, e4, hJ, hG⟩ := h
  refine c_set hO (fun S' hO' => ⟨by rw [e3], ?_⟩)
  exact ⟨pj, ds, cm, wt, jd, b, pl, us, fs, ga, ns, as, t, gg, _, ld, OS_re hO', h60, e1, e2, by rw [e3], e4, hJ, hG⟩
theorem r_put {i v : Int32} (h : lawR z S c va fu lo wo) : xw z NK g 111 0 [(0, .ref (z + 0)), (1, .int i), (2, .int v)] [] S (fun r S' => r = some (.int (mVa wo i)) ∧ lawR z S' c va fu lo (mV wo i v)) := by
  obtain ⟨pj, ds, cm, wt, jd, b, pl, us, fs, ga, ns, as, t, gg, m, ld, hO, h60, e1, e2, e3, e4, hJ, hG⟩ := h
  refine c_put hO (fun S' hO' => ⟨by rw [e4], ?_⟩)
  exact ⟨pj, ds, cm, wt, jd, b, pl, us, fs, ga, ns, as, t, gg, _, ld, OS_re hO', h60, e1, e2, e3, by rw [e4], hJ, hG⟩
theorem r_run_no {w : Int32} (h : lawR z S c va fu lo wo) (hc : c.length ≤ 400) (hno : w < 0 ∨ 20000 < w ∨ ¬ Right c) : xw z NK g 107 0 [(0, .ref (z + 0)), (1, .int w)] [] S (fun v S' => v = some (.int (-1)) ∧ lawR z S' c va fu lo wo) := by
  have h' := h
  obtain ⟨pj, ds, cm, wt, jd, b, pl, us, fs, ga, ns, as, t, gg, m, ld, hO, h60, e1, e2, e3, e4, hJ, hG⟩ := h
  refine c_run hO (by rw [up_len]; omega) (fun _ => ⟨rfl, h'⟩) (fun _ _ S' pj' ds' cm' wt' jd' hO' hcase => ⟨rfl, ?_⟩) (fun pj' ds' cm' wt' jd' hcase _ => ?_) (fun h1 h2 pj' ds' cm' wt' jd' hcase => ?_)
  · obtain ⟨k1, k2, k3⟩ := fr_ok hc hJ hG hcase
    exact ⟨pj', ds', cm', wt', jd', false, pl, us, fs, ga, ns, as, t, gg, m, ld, OS_re hO', h60, e1, e2, e3, e4, fun _ => k1, fun w => ⟨k2, k3 w⟩⟩
  · exact okl_of hc (fr_ok hc hJ hG hcase).1
  · have hR := (fr_ok hc hJ hG hcase).1.1.mp rfl
    exact absurd hno (fun w => w.elim h1 (fun w => w.elim h2 (fun w => w hR)))
theorem r_run_yes {w : Int32} {n : Nat} {R : Rz} {st : Nat → Int32} (h : lawR z S c va fu lo wo) (hc : c.length ≤ 400) (hin : ¬ w < 0 ∧ ¬ 20000 < w) (hR : Right c) (hF : fk (Lv c n) c bot (st, none, lo, wo, w) = some R) : xw z NK g 107 0 [(0, .ref (z + 0)), (1, .int w)] [] S (fun v S' => v = some (.int R.1) ∧ lawR z S' c R.2.1 R.2.2.1 R.2.2.2.1 R.2.2.2.2) := by
  obtain ⟨pj, ds, cm, wt, jd, b, pl, us, fs, ga, ns, as, t, gg, m, ld, hO, h60, e1, e2, e3, e4, hJ, hG⟩ := h
  refine c_run hO (by rw [up_len]; omega) (fun w => absurd w (fun w => w.elim hin.1 hin.2)) (fun _ _ S' pj' ds' cm' wt' jd' hO' hcase => ?_) (fun pj' ds' cm' wt' jd' hcase _ => ?_) (fun h1 h2 pj' ds' cm' wt' jd' hcase gg' g1 g2 => ?_)
  · have := (fr_ok hc hJ hG hcase).1.1.mpr hR
    cases this
  · exact okl_of hc (fr_ok hc hJ hG hcase).1
  · obtain ⟨k1, k2, k3⟩ := fr_ok hc hJ hG hcase
    have eg : gg' = gof (up c).1 (up c).2 pj' ds' := by
      by_cases hl : ld = 0
      · exact g1 hl
      · rw [g2 hl]; exact k3 hl
    subst eg
    obtain ⟨-, hf, hLU, hjp, h18, -⟩ := hR
    obtain ⟨hp, D, hRD, o1, o2, ρ, hρ⟩ := k1.2 rfl
    obtain ⟨eF, hFl⟩ := x_cl hin.1
    obtain ⟨F, hFe⟩ : ∃ F, F = w.toNatClampNeg := ⟨_, rfl⟩
    rw [← hFe] at eF hFl
    subst eF
    have hF2 : F ≤ 20000 := Nat.not_lt.mp (fun q => hin.2 ((nI_ltI (by omega) hFl (a := 20000)).mpr q))
    obtain ⟨Bd, b1, b2, b3, b4⟩ := (class_run hc hf hLU hjp h18 o1 o2 hρ hp hRD).2.2 F n st lo wo R m.1 m.2.1 m.2.2.1 hF2 hF h60
    rw [e3, e4]
    refine ⟨Bd, b1, b2, fun S' pl' us' fs' ga' ns' as' t' ld' hO' hld => ⟨by rw [← b3]; rfl, ?_⟩⟩
    exact ⟨pj', ds', cm', wt', jd', true, pl', us', fs', ga', ns', as', t', _, _, ld', OS_re hO', b4, by rw [← b3]; rfl, by rw [← b3]; rfl, by rw [← b3]; rfl, by rw [← b3]; rfl, fun _ => k1, fun _ => ⟨k2, rfl⟩⟩
end LAWR
section LAWM
variable {z : Nat} {NK : List Nat} {g : mx_G} {S : xS} {c : List II} {th va fu : Int32} {lo wo : Nat → Int32}
theorem lq_add {n k : Int32} (h : lawM z S c th va fu lo wo) (hc : c.length < 400) : xw z NK g 118 0 [(0, .ref (z + 52)), (1, .int n), (2, .int k)] [] S (fun v S' => v = some (.int (nI (c.length + 1))) ∧ lawM z S' (c ++ [(n, k)]) 0 va fu lo wo) := by
  obtain ⟨hg, nu, ag, he, go, ro, hM, hC⟩ := h
  refine c_madd hM (by omega) (fun w => absurd hc (by omega)) (fun _ S' hM' => ⟨rfl, hg, _, _, he, go, ro, ?_, CO_app hC⟩)
  rw [List.length_append, List.length_singleton]
  exact MO_re hM'
theorem lq_add0 {n k : Int32} (h : lawM z S c th va fu lo wo) (hc : c.length = 400) : xw z NK g 118 0 [(0, .ref (z + 52)), (1, .int n), (2, .int k)] [] S (fun v S' => v = some (.int (-1)) ∧ lawM z S' c 0 va fu lo wo) := by
  obtain ⟨hg, nu, ag, he, go, ro, hM, hC⟩ := h
  exact c_madd hM (by omega) (fun _ S' hM' => ⟨rfl, hg, nu, ag, he, go, ro, MO_re hM', hC⟩) (fun w => absurd w (by omega))
theorem lq_clear (h : lawM z S c th va fu lo wo) : xw z NK g 119 0 [(0, .ref (z + 52))] [] S (fun v S' => v = none ∧ lawM z S' [] 0 va fu lo wo) := by
  obtain ⟨hg, nu, ag, he, go, ro, hM, hC⟩ := h
  exact c_mclear hM (fun S' hM' => ⟨rfl, hg, nu, ag, he, go, ro, MO_re hM', fun i hi => absurd hi (Nat.not_lt_zero i)⟩)
theorem lq_build (h : lawM z S c th va fu lo wo) (hc : c.length ≤ 400) : xw z NK g 130 0 [(0, .ref (z + 52))] [] S (fun v S' => ∃ b : Bool, v = some (.int (bI b)) ∧ (b = true ↔ Right c) ∧ lawM z S' c 0 va fu lo wo) := by
  obtain ⟨hg, nu, ag, he, go, ro, hM, hC⟩ := h
  exact c_mbuild hC hc hM (fun he' go' S' b hM' hb => ⟨b, rfl, hb, hg, nu, ag, he', go', ro, MO_re hM', hC⟩)
theorem lq_value (h : lawM z S c th va fu lo wo) : xw z NK g 140 0 [(0, .ref (z + 52))] [] S (fun v S' => v = some (.int va) ∧ lawM z S' c 0 va fu lo wo) := by
  obtain ⟨hg, nu, ag, he, go, ro, hM, hC⟩ := h
  exact c_mvalue hM (fun S' hM' => ⟨rfl, hg, nu, ag, he, go, ro, MO_re hM', hC⟩)
theorem lq_fuel (h : lawM z S c th va fu lo wo) : xw z NK g 141 0 [(0, .ref (z + 52))] [] S (fun v S' => v = some (.int fu) ∧ lawM z S' c 0 va fu lo wo) := by
  obtain ⟨hg, nu, ag, he, go, ro, hM, hC⟩ := h
  exact c_mfuel hM (fun S' hM' => ⟨rfl, hg, nu, ag, he, go, ro, MO_re hM', hC⟩)
theorem lq_thrown (h : lawM z S c th va fu lo wo) : xw z NK g 117 0 [(0, .ref (z + 52))] [] S (fun v S' => v = some (.int th) ∧ lawM z S' c th va fu lo wo) := by
  have h' := h
  obtain ⟨hg, nu, ag, he, go, ro, hM, hC⟩ := h
  exact c_thrown hM ⟨rfl, h'⟩
theorem lq_set {i v : Int32} (h : lawM z S c th va fu lo wo) : xw z NK g 142 0 [(0, .ref (z + 52)), (1, .int i), (2, .int v)] [] S (fun r S' => r = some (.int (mLa lo i)) ∧ lawM z S' c 0 va fu (mL lo i v) wo) := by
  obtain ⟨hg, nu, ag, he, go, ro, hM, hC⟩ := h
  exact c_mset hM (fun S' hM' => ⟨rfl, hg, nu, ag, he, go, ro, MO_re hM', hC⟩)
theorem lq_put {i v : Int32} (h : lawM z S c th va fu lo wo) : xw z NK g 144 0 [(0, .ref (z + 52)), (1, .int i), (2, .int v)] [] S (fun r S' => r = some (.int (mVa wo i)) ∧ lawM z S' c 0 va fu lo (mV wo i v)) := by
  obtain ⟨hg, nu, ag, he, go, ro, hM, hC⟩ := h
  exact c_mput hM (fun S' hM' => ⟨rfl, hg, nu, ag, he, go, ro, MO_re hM', hC⟩)
theorem lq_local {i : Int32} (h : lawM z S c th va fu lo wo) : xw z NK g 143 0 [(0, .ref (z + 52)), (1, .int i)] [] S (fun r S' => r = some (.int (mLa lo i)) ∧ lawM z S' c (if m_hasL i = true then 0 else 1) va fu lo wo) := by
  obtain ⟨hg, nu, ag, he, go, ro, hM, hC⟩ := h
  exact c_mlocal hM (fun S' hM' => ⟨rfl, hg, nu, ag, he, go, ro, MO_re hM', hC⟩)
theorem lq_word {i : Int32} (h : lawM z S c th va fu lo wo) : xw z NK g 145 0 [(0, .ref (z + 52)), (1, .int i)] [] S (fun r S' => r = some (.int (mVa wo i)) ∧ lawM z S' c (if m_hasW i.toInt64 = true then 0 else 1) va fu lo wo) := by
  obtain ⟨hg, nu, ag, he, go, ro, hM, hC⟩ := h
  exact c_mword hM (fun S' hM' => ⟨rfl, hg, nu, ag, he, go, ro, MO_re hM', hC⟩)
theorem lq_run_no {w : Int32} (h : lawM z S c th va fu lo wo) (hc : c.length ≤ 400) (hno : w < 0 ∨ 20000 < w ∨ ¬ Right c) : xw z NK g 139 0 [(0, .ref (z + 52)), (1, .int w)] [] S (fun v S' => v = some (.int (-1)) ∧ lawM z S' c 0 va fu lo wo) := by
  obtain ⟨hg, nu, ag, he, go, ro, hM, hC⟩ := h
  exact c_mrun_no hC hc hno hM (fun he' go' S' hM' => ⟨rfl, hg, nu, ag, he', go', ro, MO_re hM', hC⟩)
theorem lq_run_yes {w : Int32} {n : Nat} {R : Rz} {st : Nat → Int32} (h : lawM z S c th va fu lo wo) (hc : c.length ≤ 400) (hin : ¬ w < 0 ∧ ¬ 20000 < w) (hR : Right c) (hF : fk (Lv c n) c bot (st, none, lo, wo, w) = some R) : xw z NK g 139 0 [(0, .ref (z + 52)), (1, .int w)] [] S (fun v S' => v = some (.int R.1) ∧ lawM z S' c 0 R.2.1 R.2.2.1 R.2.2.2.1 R.2.2.2.2) := by
  obtain ⟨hg, nu, ag, he, go, ro, hM, hC⟩ := h
  exact c_mrun_yes hC hc hin hR hF hM (fun he' go' hg' ro' S' hM' => ⟨rfl, hg', nu, ag, he', go', ro', MO_re hM', hC⟩)
end LAWM
/-- every run of a right code has an answer -/
theorem run_has {c : List II} {w : Int32} {lo wo : Nat → Int32} (hin : ¬ w < 0 ∧ ¬ 20000 < w) (hR : Right c) : ∃ (n : Nat) (R : Rz), fk (Lv c n) c bot ((fun _ => 0), none, lo, wo, w) = some R := by
  obtain ⟨-, hf, hLU, hjp, h18, D, o1, o2, ρ, hρ⟩ := hR
  obtain ⟨eF, hFl⟩ := x_cl hin.1
  have hF2 : w.toNatClampNeg ≤ 20000 := Nat.not_lt.mp (fun q => hin.2 (by rw [eF]; exact (nI_ltI (by omega) hFl (a := 20000)).mpr q))
  exact total hf hLU hjp h18 o1 o2 hρ w.toNatClampNeg (by omega) _ 0 0 o1.1 rfl ((fun _ => 0), none, lo, wo, w) rfl eF
