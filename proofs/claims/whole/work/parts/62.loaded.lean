/-! LOADING what was written -/
def gt (t : GG) (i : II) : GG := g_take t.1 t.2.1 t.2.2 i.1 i.2
theorem nAt_app {a b : List Int32} {v : Int32} (h : (a ++ v :: b).length < 2 ^ 31) : nAt (a ++ v :: b) (nI a.length) = v := by
  rw [List.length_append, List.length_cons] at h
  rw [nAt_nat (by omega), List.getD_eq_getElem?_getD, List.getElem?_append_right (Nat.le_refl _), Nat.sub_self]
  rfl
theorem g_dec_enc {ms : List II} (hok : ∀ i ∈ ms, okM i) (hl : (ms.flatMap enc).length < 2 ^ 30) : ∀ (rest pre : List II) (t : GG) (d : Nat), ms = pre ++ rest → rest.length < d → g_dec (ms.flatMap enc) d (pre.flatMap enc).length t = rest.foldl gt t := by
  intro rest
  induction rest with
  | nil =>
    intro pre t d hp hd
    obtain ⟨d, rfl⟩ : ∃ d', d = d' + 1 := ⟨d - 1, by simp at hd; omega⟩
    have e : pre = ms := by rw [hp]; simp
    rw [g_dec, e, if_neg (nI_nlt (Nat.le_refl _) (by omega))]
    rfl
  | cons x rest ih =>
    intro pre t d hp hd
    obtain ⟨d, rfl⟩ : ∃ d', d = d' + 1 := ⟨d - 1, by simp at hd; omega⟩
    have hx : ok2 x.1 x.2 := hok x (by rw [hp]; simp)
    have hp' : ms = (pre ++ [x]) ++ rest := by rw [hp]; simp
    have hd' : rest.length < d := by simp at hd; omega
    obtain ⟨im, him⟩ : ∃ im, im = ms.flatMap enc := ⟨_, rfl⟩
    have hsp : im = pre.flatMap enc ++ (enc x ++ rest.flatMap enc) := by rw [him, hp]; simp
    have hl2 := hl
    rw [← him] at hl2
    by_cases c : ¬ x.2 < -8388608 ∧ x.2 < 8388608
    · have ee : enc x = [(x.2 <<< (8 &&& 31)) ||| x.1] := by rw [enc, if_pos c]
      have IH := ih (pre ++ [x]) (gt t x) d hp' hd'
      have el : ((pre ++ [x]).flatMap enc).length = (pre.flatMap enc).length + 1 := by simp [ee]
      rw [el, ← him] at IH
      have hlen : (pre.flatMap enc).length < im.length := by rw [hsp, ee]; simp
      have ha : nAt im (nI (pre.flatMap enc).length) = (x.2 <<< (8 &&& 31)) ||| x.1 := by
        have e2 : im = pre.flatMap enc ++ ((x.2 <<< (8 &&& 31)) ||| x.1) :: rest.flatMap enc := by rw [hsp, ee]; rfl
        have := nAt_app (a := pre.flatMap enc) (b := rest.flatMap enc) (v := (x.2 <<< (8 &&& 31)) ||| x.1) (by rw [← e2]; omega)
        rw [← e2] at this
        exact this
      obtain ⟨s1, s2⟩ := short_n (a := x.2) hx.1 hx.2.1
      rw [← him, g_dec, if_pos (nI_lt hlen (by omega)), ha, if_pos s1, s2, short_a hx.1 hx.2.1 c]
      exact IH
    · have ee : enc x = [128 ||| x.1, x.2] := by rw [enc, if_neg c]
      have IH := ih (pre ++ [x]) (gt t x) d hp' hd'
      have el : ((pre ++ [x]).flatMap enc).length = (pre.flatMap enc).length + 2 := by simp [ee]
      rw [el, ← him] at IH
      have hlen : (pre.flatMap enc).length + 1 < im.length := by rw [hsp, ee]; simp
      have e2 : im = pre.flatMap enc ++ (128 ||| x.1) :: (x.2 :: rest.flatMap enc) := by rw [hsp, ee]; rfl
      have e3 : im = (pre.flatMap enc ++ [128 ||| x.1]) ++ x.2 :: rest.flatMap enc := by rw [e2]; simp
      have ha : nAt im (nI (pre.flatMap enc).length) = 128 ||| x.1 := by
        have := nAt_app (a := pre.flatMap enc) (b := x.2 :: rest.flatMap enc) (v := 128 ||| x.1) (by rw [← e2]; omega)
        rw [← e2] at this
        exact this
      have hb : nAt im (nI (pre.flatMap enc).length + 1) = x.2 := by
        have := nAt_app (a := pre.flatMap enc ++ [128 ||| x.1]) (b := rest.flatMap enc) (v := x.2) (by rw [← e3]; omega)
        rw [← e3, List.length_append] at this
        rw [nI_1]
        exact this
      obtain ⟨j, hj, hxj⟩ := n29 hx.1 hx.2.1
      obtain ⟨s1, s2⟩ := long_n j hj
      rw [← hxj] at s1 s2
      rw [← him, g_dec, if_pos (nI_lt (by omega) (by omega)), ha, if_neg s1, s2, hb]
      exact IH
def nmk (i : II) : Bool := !mk0 i
theorem cnt_len (p : List II) : (p.filter nmk).length = cnt p := (List.countP_eq_length_filter).symm
theorem gt_m {t : GG} {i : II} (h : i.1 = 0) : gt t i = (t.1, t.2.1, nSet t.2.2 i.2 (nI t.1.length)) := by
  unfold gt g_take; rw [if_pos h]
theorem gt_i {t : GG} {i : II} (h : ¬ i.1 = 0) : gt t i = (t.1 ++ [i.1], t.2.1 ++ [i.2], t.2.2) := by
  unfold gt g_take; rw [if_neg h]
theorem fold_lists (ms : List II) : ∀ t : GG, (ms.foldl gt t).1 = t.1 ++ (ms.filter nmk).map Prod.fst ∧ (ms.foldl gt t).2.1 = t.2.1 ++ (ms.filter nmk).map Prod.snd ∧ (ms.foldl gt t).2.2.length = t.2.2.length := by
  induction ms with
  | nil => intro t; simp
  | cons i ms ih =>
    intro t
    rw [List.foldl_cons]
    obtain ⟨h1, h2, h3⟩ := ih (gt t i)
    rw [h1, h2, h3]
    by_cases h : i.1 = 0
    · have e : nmk i = false := by simp [nmk, mk0, h]
      rw [gt_m h, List.filter_cons, e]
      exact ⟨rfl, rfl, nSet_len _ _ _⟩
    · have e : nmk i = true := by simp [nmk, mk0, h]
      rw [gt_i h, List.filter_cons, e]
      simp
theorem fold_out (ms : List II) (hok : ∀ i ∈ ms, okM i) {k : Int32} (hk : ¬ k < 0 ∧ k < 100) : ∀ t : GG, t.2.2.length = 100 → (0, k) ∉ ms → nAt (ms.foldl gt t).2.2 k = nAt t.2.2 k := by
  induction ms with
  | nil => intro t _ _; rfl
  | cons i ms ih =>
    intro t hl hn
    have hn1 : ¬ i = (0, k) := fun c => hn (by rw [c]; exact List.mem_cons_self ..)
    have hn2 : (0, k) ∉ ms := fun c => hn (List.mem_cons_of_mem _ c)
    have hoi : ok2 i.1 i.2 := hok i (List.mem_cons_self ..)
    rw [List.foldl_cons]
    by_cases h : i.1 = 0
    · rw [ih (fun j hj => hok j (List.mem_cons_of_mem _ hj)) _ (by rw [gt_m h]; show (nSet _ _ _).length = 100; rw [nSet_len]; exact hl) hn2, gt_m h]
      show nAt (nSet t.2.2 i.2 _) k = _
      rw [nAt_set hk.1 (by rw [hl]; exact lt100 hk.1 hk.2) (hoi.2.2 (.inl h)).1, if_neg (fun c => hn1 (Prod.ext h c))]
    · rw [ih (fun j hj => hok j (List.mem_cons_of_mem _ hj)) _ (by rw [gt_i h]; exact hl) hn2, gt_i h]
theorem fold_at (q : List II) : ∀ (t : GG) (t' : List II) {k : Int32}, (∀ i ∈ q ++ (0, k) :: t', okM i) → ¬ k < 0 ∧ k < 100 → t.2.2.length = 100 → (0, k) ∉ t' → nAt ((q ++ (0, k) :: t').foldl gt t).2.2 k = nI (t.1.length + cnt q) := by
  induction q with
  | nil =>
    intro t t' k hok hk hl hn
    rw [List.nil_append, List.foldl_cons, fold_out t' (fun j hj => hok j (by simp [hj])) hk _ (by rw [gt_m rfl]; show (nSet _ _ _).length = 100; rw [nSet_len]; exact hl) hn, gt_m rfl]
    show nAt (nSet t.2.2 k _) k = _
    rw [nAt_set hk.1 (by rw [hl]; exact lt100 hk.1 hk.2) hk.1, if_pos rfl]
    rfl
  | cons i q ih =>
    intro t t' k hok hk hl hn
    rw [List.cons_append, List.foldl_cons]
    have hok' : ∀ j ∈ q ++ (0, k) :: t', okM j := fun j hj => hok j (by rw [List.cons_append]; exact List.mem_cons_of_mem _ hj)
    have e : cnt (i :: q) = cnt [i] + cnt q := cnt_app [i] q
    by_cases h : i.1 = 0
    · rw [ih _ t' hok' hk (by rw [gt_m h]; show (nSet _ _ _).length = 100; rw [nSet_len]; exact hl) hn, gt_m h, e]
      have : cnt [i] = 0 := by simp [cnt, mk0, h]
      rw [this, Nat.zero_add]
    · rw [ih _ t' hok' hk (by rw [gt_i h]; exact hl) hn, gt_i h, e, cnt_i h]
      show nI ((t.1 ++ [i.1]).length + cnt q) = _
      rw [List.length_append, List.length_singleton, Nat.add_assoc]
theorem g_fix_at {pn pp : List Int32} (hl : pn.length < 2 ^ 30) : ∀ (d i : Nat) (pa : List Int32), i + d = pn.length → pa.length = pn.length → (g_fix pn pp d i pa).length = pn.length ∧ ∀ j, j < pn.length → nAt (g_fix pn pp d i pa) (nI j) = if i ≤ j ∧ ¬ nAt pn (nI j) < 20 then nAt pp (nAt pa (nI j)) else nAt pa (nI j) := by
  intro d
  induction d with
  | zero =>
    intro i pa hi hpa
    refine ⟨hpa, fun j hj => ?_⟩
    rw [if_neg (by omega)]
    rfl
  | succ d ih =>
    intro i pa hi hpa
    rw [g_fix]
    by_cases c : nAt pn (nI i) < 20
    · rw [if_pos c]
      obtain ⟨h1, h2⟩ := ih (i + 1) pa (by omega) hpa
      refine ⟨h1, fun j hj => ?_⟩
      rw [h2 j hj]
      by_cases e : j = i
      · subst e; rw [if_neg (by omega), if_neg (fun w => w.2 c)]
      · have : (i + 1 ≤ j ∧ ¬ nAt pn (nI j) < 20) ↔ (i ≤ j ∧ ¬ nAt pn (nI j) < 20) := by constructor <;> rintro ⟨a, b⟩ <;> exact ⟨by omega, b⟩
        simp only [this]
    · rw [if_neg c]
      obtain ⟨h1, h2⟩ := ih (i + 1) (nSet pa (nI i) (nAt pp (nAt pa (nI i)))) (by omega) (by rw [nSet_len]; exact hpa)
      refine ⟨h1, fun j hj => ?_⟩
      rw [h2 j hj, nAt_setq (by omega) (by omega)]
      by_cases e : j = i
      · subst e; rw [if_neg (by omega), if_pos rfl, if_pos ⟨Nat.le_refl _, c⟩]
      · have hne : ¬ nI i = nI j := fun w => e ((nI_eq (by omega) (by omega)).mp w).symm
        have : (i + 1 ≤ j ∧ ¬ nAt pn (nI j) < 20) ↔ (i ≤ j ∧ ¬ nAt pn (nI j) < 20) := by constructor <;> rintro ⟨a, b⟩ <;> exact ⟨by omega, b⟩
        simp only [this, if_neg hne]
/-- what is loaded is the code written -/
theorem load_ok {ms : List II} (hok : ∀ i ∈ ms, okM i) (hMU : MU ms) (hl : (ms.flatMap enc).length < 2 ^ 30) (hl2 : ms.length ≤ (ms.flatMap enc).length) (pp0 : List Int32) (hpp : pp0.length = 100) :
    PR ms (g_fin (g_dec (ms.flatMap enc) ((ms.flatMap enc).length + 1) 0 ([], [], pp0))).1 (g_fin (g_dec (ms.flatMap enc) ((ms.flatMap enc).length + 1) 0 ([], [], pp0))).2.1 := by
  have h0 := g_dec_enc hok hl ms [] ([], [], pp0) ((ms.flatMap enc).length + 1) rfl (by omega)
  have e0 : (([] : List II).flatMap enc).length = 0 := rfl
  rw [e0] at h0
  rw [h0]
  obtain ⟨f1, f2, f3⟩ := fold_lists ms ([], [], pp0)
  simp only [List.nil_append] at f1 f2
  have hat : ∀ (q t' : List II) (k : Int32), ms = q ++ (0, k) :: t' → nAt (ms.foldl gt ([], [], pp0)).2.2 k = nI (cnt q) := by
    intro q t' k hq
    have := fold_at q ([], [], pp0) t' (k := k) (by rw [← hq]; exact hok) ((hok (0, k) (by rw [hq]; simp)).2.2 (.inl rfl)) hpp (by
      intro w
      obtain ⟨a, b, rfl⟩ := List.append_of_mem w
      have h2 : ms = (q ++ (0, k) :: a) ++ (0, k) :: b := by rw [hq]; simp
      rw [h2] at hMU
      exact MU_first hMU (0, k) (by simp) ⟨rfl, rfl⟩)
    rw [← hq] at this
    simpa using this
  generalize ms.foldl gt ([], [], pp0) = T at *
  unfold g_fin
  have hcl : cnt ms ≤ ms.length := List.countP_le_length
  have hlen : T.1.length = cnt ms := by rw [f1, List.length_map, cnt_len]
  have hlen2 : T.2.1.length = T.1.length := by rw [f1, f2, List.length_map, List.length_map]
  obtain ⟨-, g2⟩ := g_fix_at (pn := T.1) (pp := T.2.2) (by omega) T.1.length 0 T.2.1 (by omega) hlen2
  refine ⟨hlen, fun p i t hp hi => ?_⟩
  have hcp : cnt p < cnt ms := by
    rw [hp, cnt_app]
    have e : cnt (i :: t) = cnt [i] + cnt t := cnt_app [i] t
    rw [e, cnt_i hi]; omega
  have hfil : ms.filter nmk = p.filter nmk ++ i :: t.filter nmk := by
    rw [hp, List.filter_append, List.filter_cons, if_pos (by simp [nmk, mk0, hi])]
  have hcl2 : (p.filter nmk).length = cnt p := cnt_len p
  have n1 : nAt T.1 (nI (cnt p)) = i.1 := by
    rw [f1, hfil, List.map_append, List.map_cons, ← hcl2, ← List.length_map (f := Prod.fst)]
    refine nAt_app ?_
    rw [← List.map_cons, ← List.map_append, ← hfil, ← f1]; omega
  have n2 : nAt T.2.1 (nI (cnt p)) = i.2 := by
    rw [f2, hfil, List.map_append, List.map_cons, ← hcl2, ← List.length_map (f := Prod.snd)]
    refine nAt_app ?_
    rw [← List.map_cons, ← List.map_append, ← hfil, ← f2]; omega
  have g3 := g2 (cnt p) (by omega)
  refine ⟨n1, fun c => ?_, fun c q t' hq => ?_⟩
  · rw [g3, n1, if_neg (fun w => w.2 c), n2]
  · rw [g3, n1, if_pos ⟨Nat.zero_le _, c⟩, n2]
    obtain ⟨a, k⟩ := i
    exact hat q t' k hq
theorem enc_len (ms : List II) : ms.length ≤ (ms.flatMap enc).length ∧ (ms.flatMap enc).length ≤ 2 * ms.length := by
  induction ms with
  | nil => simp
  | cons i ms ih =>
    have : 1 ≤ (enc i).length ∧ (enc i).length ≤ 2 := by unfold enc; split <;> simp
    rw [List.flatMap_cons, List.length_append, List.length_cons]
    omega
