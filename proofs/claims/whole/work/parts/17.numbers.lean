/-! NUMBERS: a row of ints that grows -/
def nAt (xs : List Int32) (i : Int32) : Int32 := if i < 0 then -1 else xs.getD i.toNatClampNeg (-1)
def nSet (xs : List Int32) (i v : Int32) : List Int32 := if i < 0 then xs else xs.set i.toNatClampNeg v
def nCut (xs : List Int32) (n : Int32) : List Int32 := xs.take n.toNatClampNeg
def nLast (xs : List Int32) : Int32 := xs.getLast?.getD (-1)
theorem xu_xu (S : xS) (k : Nat) (a b : xC) : xu (xu S k a) k b = xu S k b := by
  funext q
  unfold xu
  by_cases h : q = k <;> simp [h]
theorem x_cl {x : Int32} (h : ¬ x < 0) : x = nI x.toNatClampNeg ∧ x.toNatClampNeg < 2 ^ 31 := by
  obtain ⟨j, hj, rfl⟩ := nI_of h
  rw [nI_clamp hj]
  exact ⟨rfl, hj⟩
theorem x_clneg {x : Int32} (h : x < 0) : x.toNatClampNeg = 0 := by
  have h1 : x.toInt < 0 := by simpa using Int32.lt_iff_toInt_lt.mp h
  show x.toInt.toNat = 0
  omega
theorem x_le {x : Int32} {n : Nat} (h : ¬ x < 0) (hn : n < 2 ^ 31) : nI n ≤ x ↔ n ≤ x.toNatClampNeg := by
  obtain ⟨e, hl⟩ := x_cl h
  generalize x.toNatClampNeg = j at e hl
  rw [e]
  exact nI_leI hn hl
section XN
variable {z : Nat} {NK : List Nat} {g : mx_G} {S : xS} {P : Option Value → xS → Prop} {k : Nat} {xs : List Int32}
theorem xI.nums {c : Nat × Nat} {h : mx_H} (hI : xI z NK c g h S) (hk : S k = some (.inl xs)) : ∃ (a cap : Nat) (f : Nat → Int32), mx_get h (z + k) = some (.inr (6, [.ref a, .int (nI xs.length)])) ∧ mx_get h a = some (.inl (false, cap, f)) ∧ xs.length ≤ cap ∧ (16 ≤ cap ∧ cap ≤ 131072) ∧ (∀ i v, xs[i]? = some v → f i = v) ∧ a ≠ z + k ∧ (z + k < h.1 ∧ mx_get h h.1 = none) ∧
    (∀ (ys : List Int32) (f' : Nat → Int32) (h' : mx_H), h'.1 = h.1 → h'.2.1 = h.2.1 → h'.2.2.2 = h.2.2.2 → mx_get h' (z + k) = some (.inr (6, [.ref a, .int (nI ys.length)])) → mx_get h' a = some (.inl (false, cap, f')) → (∀ q, q ≠ z + k → q ≠ a → mx_get h' q = mx_get h q) → ys.length ≤ cap → (∀ i v, ys[i]? = some v → f' i = v) → xI z NK c g h' (xu S k (.inl ys))) ∧
    (cap < 131072 → ∀ (ys : List Int32) (f' : Nat → Int32) (h' : mx_H), h'.1 = h.1 + 1 → h'.2.1 = h.2.1 + 2 * cap → h'.2.2.2 = h.2.2.2 → mx_get h' (z + k) = some (.inr (6, [.ref h.1, .int (nI ys.length)])) → mx_get h' h.1 = some (.inl (false, 2 * cap, f')) → (∀ q, q ≠ z + k → q ≠ h.1 → mx_get h' q = mx_get h q) → ys.length ≤ 2 * cap → (∀ i v, ys[i]? = some v → f' i = v) → xI z NK c g h' (xu S k (.inl ys))) := by
  obtain ⟨hD, e, ar, f, hJ⟩ := hI
  obtain ⟨h1, h2, h3, h4, h5, h6, h7⟩ := id hJ
  obtain ⟨a1, a2, a3, a4, a5, a6, a7⟩ := h5 k xs hk
  have hp : 2 ^ e k ≤ 2 ^ 13 := Nat.pow_le_pow_right (by decide) a5
  have hp1 : 1 ≤ 2 ^ e k := Nat.one_le_two_pow
  have hzk := hD.2.1 k a1
  refine ⟨ar k, 16 * 2 ^ e k, f k, a2, a3, a4, ⟨by omega, by omega⟩, a6, a7 k (by rw [hk]; rfl), ⟨by omega, h7 _ (Nat.le_refl _)⟩, ?_, ?_⟩
  · intro ys f' h' z1 z2 z3 g1 g2 g3 hl hv
    exact hJ.num hD hk z1 z2 z3 g1 g2 g3 hl hv
  · intro hlt ys f' h' z1 z2 z3 g1 g2 g3 hl hv
    refine hJ.grow hD hk ?_ z1 z2 z3 g1 g2 g3 hl hv
    rcases Nat.lt_or_ge (e k) 13 with w | w
    · exact w
    · have : 2 ^ 13 ≤ 2 ^ e k := Nat.pow_le_pow_right (by decide) w
      omega
theorem c_size (hk : S k = some (.inl xs)) (hP : P (some (.int (nI xs.length))) S) : xw z NK g 2 0 [(0, .ref (z + k))] [] S P := by
  intro c h hI
  obtain ⟨a, cap, f, g1, -⟩ := hI.nums hk
  exact ⟨_, h, S, mx_to.steps 1 rfl (go_getf rfl g1 rfl (go_ret rfl rfl)), hI, hP⟩
theorem nAt_neg {i : Int32} (h : i < 0) : nAt xs i = -1 := if_pos h
theorem nAt_out {i : Int32} (h : ¬ i < 0) (h2 : xs.length ≤ i.toNatClampNeg) : nAt xs i = -1 := by
  unfold nAt
  rw [if_neg h, List.getD_eq_getElem?_getD, List.getElem?_eq_none h2]
  rfl
theorem nAt_in {i : Int32} (h : ¬ i < 0) {v : Int32} (hv : xs[i.toNatClampNeg]? = some v) : nAt xs i = v := by
  unfold nAt
  rw [if_neg h, List.getD_eq_getElem?_getD, hv]
  rfl
theorem c_at {i : Int32} (hk : S k = some (.inl xs)) (hP : P (some (.int (nAt xs i))) S) : xw z NK g 3 0 [(0, .ref (z + k)), (1, .int i)] [] S P := by
  intro c h hI
  obtain ⟨a, cap, f, g1, g2, l1, l2, hv, -⟩ := hI.nums hk
  refine ⟨_, h, S, ?_, hI, hP⟩
  refine mx_to.steps 1 rfl (go_if rfl (fun hc => ?_) (fun hc => ?_))
  · rw [nAt_neg (of_decide_eq_true hc)]
    exact mx_to.steps 1 rfl (go_ret rfl rfl)
  · have hc := of_decide_eq_false hc
    refine mx_to.steps 2 rfl (go_getf rfl g1 rfl (go_icmp rfl (fun hc2 => ?_) (fun hc2 => ?_)))
    · rw [nAt_out hc ((x_le hc (by omega)).mp (of_decide_eq_true hc2))]
      exact mx_to.steps 1 rfl (go_ret rfl rfl)
    · have hc2 : ¬ xs.length ≤ i.toNatClampNeg := fun w => of_decide_eq_false hc2 ((x_le hc (by omega)).mpr w)
      have hx : xs[i.toNatClampNeg]? = some (xs[i.toNatClampNeg]'(by omega)) := List.getElem?_eq_getElem (by omega)
      refine mx_to.steps 1 rfl (go_getf rfl g1 rfl (mx_to.steps 1 rfl (go_ald rfl g2 (fun w => ?_) ?_)))
      · rcases w with w | w
        · exact hc w
        · omega
      · rw [nAt_in hc hx, hv _ _ hx]
        exact mx_to.steps 1 rfl (go_ret rfl rfl)
theorem c_change {i v : Int32} (hk : S k = some (.inl xs)) (hP : P none (xu S k (.inl (nSet xs i v)))) : xw z NK g 4 0 [(0, .ref (z + k)), (1, .int i), (2, .int v)] [] S P := by
  have same : nSet xs i v = xs → xu S k (.inl (nSet xs i v)) = S := by
    intro w
    rw [w]
    funext q
    by_cases hq : q = k
    · rw [hq, xu_self, hk]
    · rw [xu_ne _ _ hq]
  intro c h hI
  obtain ⟨a, cap, f, g1, g2, l1, l2, hv, hne, -, up, -⟩ := hI.nums hk
  by_cases hc : i < 0
  · have e1 := same (if_pos hc)
    rw [e1] at hP
    exact ⟨_, h, S, mx_to.steps 1 rfl (go_if rfl (fun _ => go_ret rfl rfl) (fun w => absurd hc (of_decide_eq_false w))), hI, hP⟩
  · by_cases hc2 : xs.length ≤ i.toNatClampNeg
    · have e1 := same (by unfold nSet; rw [if_neg hc, List.set_eq_of_length_le hc2])
      rw [e1] at hP
      refine ⟨_, h, S, mx_to.steps 1 rfl (go_if rfl (fun w => absurd (of_decide_eq_true w) hc) (fun _ => ?_)), hI, hP⟩
      exact mx_to.steps 2 rfl (go_getf rfl g1 rfl (go_icmp rfl (fun _ => go_ret rfl rfl) (fun w => absurd ((x_le hc (by omega)).mpr hc2) (of_decide_eq_false w))))
    · refine ⟨_, mx_set h a (.inl (false, cap, upd f i.toNatClampNeg v)), _, mx_to.steps 1 rfl (go_if rfl (fun w => absurd (of_decide_eq_true w) hc) (fun _ => ?_)), ?_, hP⟩
      · refine mx_to.steps 2 rfl (go_getf rfl g1 rfl (go_icmp rfl (fun w => absurd ((x_le hc (by omega)).mp (of_decide_eq_true w)) hc2) (fun _ => ?_)))
        refine mx_to.steps 1 rfl (go_getf rfl g1 rfl (mx_to.steps 2 rfl (go_ast rfl g2 (fun w => ?_) (go_ret rfl rfl))))
        rcases w with w | w
        · exact hc w
        · omega
      · have e1 : nSet xs i v = xs.set i.toNatClampNeg v := if_neg hc
        rw [e1]
        refine up _ (upd f i.toNatClampNeg v) _ rfl rfl rfl ?_ ?_ ?_ ?_ ?_
        · rw [mx_get_set, if_neg (Ne.symm hne), List.length_set]; exact g1
        · rw [mx_get_set, if_pos rfl]
        · intro q _ h2; rw [mx_get_set, if_neg h2]
        · rw [List.length_set]; exact l1
        · intro j w hj
          rw [List.getElem?_set] at hj
          by_cases hij : i.toNatClampNeg = j
          · rw [if_pos hij] at hj
            split at hj
            · cases hj
              rw [← hij]
              exact pk_us
            · cases hj
          · rw [if_neg hij] at hj
            rw [pk_un (fun e => hij e.symm)]
            exact hv j w hj
theorem c_takeLast (hk : S k = some (.inl xs)) (hP : P (some (.int (nLast xs))) (xu S k (.inl xs.dropLast))) : xw z NK g 6 0 [(0, .ref (z + k))] [] S P := by
  intro c h hI
  obtain ⟨a, cap, f, g1, g2, l1, l2, hv, hne, -, up, -⟩ := hI.nums hk
  by_cases hx : xs = []
  · subst hx
    have e1 : xu S k (.inl ([] : List Int32).dropLast) = S := by
      funext q
      by_cases hq : q = k
      · rw [hq, xu_self, hk]; rfl
      · rw [xu_ne _ _ hq]
    rw [e1] at hP
    refine ⟨_, h, S, mx_to.steps 1 rfl (go_getf rfl g1 rfl (go_if rfl (fun w => ?_) (fun _ => mx_to.steps 1 rfl (go_ret rfl rfl)))), hI, hP⟩
    exact absurd (of_decide_eq_true w) (by decide)
  · have hlen : 0 < xs.length := List.length_pos_iff.mpr hx
    obtain ⟨n, hn⟩ : ∃ n, xs.length = n + 1 := ⟨xs.length - 1, by omega⟩
    have e2 : nI (n + 1) - 1 = nI n := nI_pred n
    have e3 : xs.dropLast.length = n := by rw [List.length_dropLast, hn]; rfl
    have hlast : xs[n]? = some (nLast xs) := by
      have h1 : xs.getLast? = xs[n]? := by rw [List.getLast?_eq_getElem?, hn]; rfl
      have h2 : xs[n]? = some (xs[n]'(by omega)) := List.getElem?_eq_getElem (by omega)
      unfold nLast
      rw [h1, h2]
      rfl
    rw [hn] at g1
    refine ⟨_, mx_set h (z + k) (.inr (6, [.ref a, .int (nI n)])), _, mx_to.steps 1 rfl (go_getf rfl g1 rfl (go_if rfl (fun _ => ?_) (fun w => ?_))), ?_, hP⟩
    · refine mx_to.steps 2 rfl (go_getf rfl g1 rfl (mx_to.steps 2 rfl ?_))
      show Go 6 16 _ [.int (nI (n + 1) - 1), .ref (z + k)] _ _
      rw [e2]
      refine go_putf rfl g1 (Nat.le_of_ble_eq_true rfl) rfl rfl ?_
      show Go 6 19 _ _ (mx_set h (z + k) (.inr (6, [.ref a, .int (nI n)]))) _
      have g1' : mx_get (mx_set h (z + k) (.inr (6, [.ref a, .int (nI n)]))) (z + k) = some (.inr (6, [.ref a, .int (nI n)])) := by rw [mx_get_set, if_pos rfl]
      have g2' : mx_get (mx_set h (z + k) (.inr (6, [.ref a, .int (nI n)]))) a = some (.inl (false, cap, f)) := by rw [mx_get_set, if_neg hne]; exact g2
      refine mx_to.steps 1 rfl (go_getf rfl g1' rfl (mx_to.steps 1 rfl (go_getf rfl g1' rfl (go_ald rfl g2' (vp_in_nI (by omega) (by omega)) ?_))))
      rw [nI_clamp (by omega), hv _ _ hlast]
      exact go_ret rfl rfl
    · exact absurd (show (0 : Int32) < nI (n + 1) by rw [← nI_0]; exact nI_lt (by omega) (by omega)) (of_decide_eq_false w)
    · refine up _ f _ rfl rfl rfl ?_ ?_ ?_ ?_ ?_
      · rw [mx_get_set, if_pos rfl, e3]
      · rw [mx_get_set, if_neg hne]; exact g2
      · intro q h1 _; rw [mx_get_set, if_neg h1]
      · omega
      · intro j w hj
        refine hv j w ?_
        rw [List.dropLast_eq_take, List.getElem?_take] at hj
        split at hj
        · exact hj
        · cases hj
theorem c_cutTo {n : Int32} (hk : S k = some (.inl xs)) (hP : P none (xu S k (.inl (nCut xs n)))) : xw z NK g 7 0 [(0, .ref (z + k)), (1, .int n)] [] S P := by
  intro c h hI
  obtain ⟨a, cap, f, g1, g2, l1, l2, hv, hne, -, up, -⟩ := hI.nums hk
  have fin : ∀ m : Nat, n.toNatClampNeg = m → m ≤ xs.length → xI z NK c g (mx_set h (z + k) (.inr (6, [.ref a, .int (nI m)]))) (xu S k (.inl (nCut xs n))) := by
    intro m hm hle
    have e1 : (nCut xs n).length = m := by unfold nCut; rw [List.length_take, hm]; omega
    refine up _ f _ rfl rfl rfl ?_ ?_ ?_ ?_ ?_
    · rw [mx_get_set, if_pos rfl, e1]
    · rw [mx_get_set, if_neg hne]; exact g2
    · intro q h1 _; rw [mx_get_set, if_neg h1]
    · omega
    · intro j w hj
      refine hv j w ?_
      unfold nCut at hj
      rw [List.getElem?_take] at hj
      split at hj
      · exact hj
      · cases hj
  by_cases h1 : nI xs.length ≤ n
  · have hn0 : ¬ n < 0 := by
      intro w
      have a1 := Int32.le_iff_toInt_le.mp h1
      have a2 := Int32.lt_iff_toInt_lt.mp w
      rw [nI_toInt (by omega)] at a1
      simp at a2
      omega
    have e1 : xu S k (.inl (nCut xs n)) = S := by
      have : nCut xs n = xs := by unfold nCut; exact List.take_of_length_le ((x_le hn0 (by omega)).mp h1)
      rw [this]
      funext q
      by_cases hq : q = k
      · rw [hq, xu_self, hk]
      · rw [xu_ne _ _ hq]
    rw [e1] at hP
    exact ⟨_, h, S, mx_to.steps 2 rfl (go_getf rfl g1 rfl (go_icmp rfl (fun _ => go_ret rfl rfl) (fun w => absurd h1 (of_decide_eq_false w)))), hI, hP⟩
  · by_cases h2 : n < 0
    · refine ⟨_, _, _, mx_to.steps 2 rfl (go_getf rfl g1 rfl (go_icmp rfl (fun w => absurd (of_decide_eq_true w) h1) (fun _ => ?_))), fin 0 (x_clneg h2) (Nat.zero_le _), hP⟩
      refine mx_to.steps 2 rfl (go_if rfl (fun w => ?_) (fun _ => mx_to.steps 2 rfl (go_putf rfl g1 (Nat.le_of_ble_eq_true rfl) rfl rfl ?_)))
      · exact absurd h2 (Int32.not_lt.mpr (of_decide_eq_true w))
      · exact go_ret rfl (by rw [nI_0]; rfl)
    · obtain ⟨e, hl⟩ := x_cl h2
      have hle : n.toNatClampNeg ≤ xs.length := by
        rcases Nat.lt_or_ge xs.length n.toNatClampNeg with w | w
        · exact absurd ((x_le h2 (by omega)).mpr (Nat.le_of_lt w)) h1
        · exact w
      refine ⟨_, _, _, mx_to.steps 2 rfl (go_getf rfl g1 rfl (go_icmp rfl (fun w => absurd (of_decide_eq_true w) h1) (fun _ => ?_))), fin _ rfl hle, hP⟩
      refine mx_to.steps 2 rfl (go_if rfl (fun _ => mx_to.steps 1 rfl (go_putf rfl g1 (Nat.le_of_ble_eq_true rfl) rfl rfl ?_)) (fun w => ?_))
      · exact go_ret rfl (by rw [← e]; rfl)
      · exact absurd (Int32.not_lt.mp h2) (of_decide_eq_false w)
/-- Arrays.copyOf to twice the length -/
theorem go_copyOf {h : mx_H} {a cap : Nat} {f : Nat → Int32} (h1 : mx_get h a = some (.inl (false, cap, f))) (hn : mx_get h h.1 = none) (hc : 0 < cap) (hc2 : cap ≤ 131072) : Go 0 0 [(0, .ref a), (1, .int (nI (2 * cap)))] [] h (some (.ref h.1), mx_set (mx_push h (2 * cap) (.inl (false, 2 * cap, fun _ => 0))) h.1 (.inl (false, 2 * cap, va_cpy f (fun _ => 0) 0 0 cap))) := by
  have hne : a ≠ h.1 := fun w => by rw [w, hn] at h1; cases h1
  have e1 : (nI (2 * cap)).toNatClampNeg = 2 * cap := nI_clamp (by omega)
  refine mx_to.steps 2 rfl (go_alen rfl h1 (go_icmp rfl (fun _ => ?_) (fun w => ?_)))
  · refine mx_to.steps 1 rfl (go_newa rfl (nI_pos (by omega)) (by rw [e1]; omega) ?_)
    rw [e1]
    have h1' : mx_get (mx_push h (2 * cap) (.inl (false, 2 * cap, fun _ => 0))) a = some (.inl (false, cap, f)) := by rw [mx_get_push, if_neg hne]; exact h1
    have h2' : mx_get (mx_push h (2 * cap) (.inl (false, 2 * cap, fun _ => 0))) h.1 = some (.inl (false, 2 * cap, fun _ => 0)) := by rw [mx_get_push, if_pos rfl]
    refine mx_to.steps 6 rfl (go_alen rfl h1' (mx_to.steps 2 rfl ?_))
    have e2 : (if nI (2 * cap) < nI cap then nI (2 * cap) else nI cap) = nI cap := if_neg (nI_nlt (by omega) (by omega))
    show Go 0 28 _ [.int (if nI (2 * cap) < nI cap then nI (2 * cap) else nI cap), .int 0, .ref h.1, .int 0, .ref a] _ _
    rw [e2]
    have e3 : (nI cap).toNatClampNeg = cap := nI_clamp (by omega)
    refine mx_to.step (pc' := 31) (lv' := [(0, .ref a), (1, .int (nI (2 * cap))), (2, .ref h.1)]) (st' := []) (h' := mx_set (mx_push h (2 * cap) (.inl (false, 2 * cap, fun _ => 0))) h.1 (.inl (false, 2 * cap, va_cpy f (fun _ => 0) 0 0 cap))) (f := sx_copy 31) rfl ?_ (mx_to.steps 1 rfl (go_ret rfl rfl))
    simp only [sx_copy, h1', h2', e3]
    rw [if_pos ⟨trivial, trivial, by decide, by decide, nI_pos (by omega), by show (0 : Int32).toNatClampNeg + cap ≤ cap; exact Nat.le_of_eq (Nat.zero_add cap), by show (0 : Int32).toNatClampNeg + cap ≤ 2 * cap; have : (0 : Int32).toNatClampNeg = 0 := rfl; omega, by decide⟩]
    rfl
  · exact absurd (show ¬ nI (2 * cap) = nI cap from fun w2 => by have := (nI_eq (by omega) (by omega)).mp w2; omega) (of_decide_eq_false w)
theorem c_append {v : Int32} (hk : S k = some (.inl xs)) (hlen : xs.length < 131072) (hP : P none (xu S k (.inl (xs ++ [v])))) : xw z NK g 5 0 [(0, .ref (z + k)), (1, .int v)] [] S P := by
  intro c h hI
  obtain ⟨a, cap, f, g1, g2, l1, l2, hv, hne, hz, up, grow⟩ := hI.nums hk
  have hl1 : (xs ++ [v]).length = xs.length + 1 := by simp
  have hval : ∀ (f1 : Nat → Int32), (∀ i w, xs[i]? = some w → f1 i = w) → ∀ i w, (xs ++ [v])[i]? = some w → upd f1 xs.length v i = w := by
    intro f1 hf1 i w hi
    rcases Nat.lt_trichotomy i xs.length with q | q | q
    · rw [List.getElem?_append_left q] at hi
      rw [pk_un (by omega)]
      exact hf1 i w hi
    · subst q
      rw [List.getElem?_append_right (Nat.le_refl _), Nat.sub_self] at hi
      cases hi
      exact pk_us
    · rw [List.getElem?_eq_none (by rw [hl1]; omega)] at hi
      cases hi
  -- from the store on
  have fin : ∀ (h1 : mx_H) (a1 cap1 : Nat) (f1 : Nat → Int32), mx_get h1 (z + k) = some (.inr (6, [.ref a1, .int (nI xs.length)])) → mx_get h1 a1 = some (.inl (false, cap1, f1)) → a1 ≠ z + k → xs.length < cap1 → cap1 < 2 ^ 31 → Go 5 30 [(0, .ref (z + k)), (1, .int v)] [] h1 (none, mx_set (mx_set h1 a1 (.inl (false, cap1, upd f1 xs.length v))) (z + k) (.inr (6, [.ref a1, .int (nI (xs.length + 1))]))) := by
    intro h1 a1 cap1 f1 q1 q2 q3 q4 q5
    refine mx_to.steps 1 rfl (go_getf rfl q1 rfl (mx_to.steps 1 rfl (go_getf rfl q1 rfl (mx_to.steps 1 rfl (go_ast rfl q2 (vp_in_nI q4 q5) ?_)))))
    rw [nI_clamp (by omega)]
    have q1' : mx_get (mx_set h1 a1 (.inl (false, cap1, upd f1 xs.length v))) (z + k) = some (.inr (6, [.ref a1, .int (nI xs.length)])) := by rw [mx_get_set, if_neg (Ne.symm q3)]; exact q1
    refine mx_to.steps 2 rfl (go_getf rfl q1' rfl (mx_to.steps 2 rfl (go_putf rfl q1' (Nat.le_of_ble_eq_true rfl) rfl rfl ?_)))
    refine go_ret rfl ?_
    show some (none, mx_set _ _ (.inr (6, [.ref a1, .int (nI xs.length + 1)]))) = _
    rw [nI_1]
  by_cases hc : xs.length < cap
  · refine ⟨_, _, _, mx_to.steps 1 rfl (go_getf rfl g1 rfl (mx_to.steps 1 rfl (go_getf rfl g1 rfl (go_alen rfl g2 (go_icmp rfl (fun _ => fin h a cap f g1 g2 hne hc (by omega)) (fun w => ?_)))))), ?_, hP⟩
    · exact absurd (nI_lt hc (by omega)) (of_decide_eq_false w)
    · refine up _ (upd f xs.length v) _ rfl rfl rfl ?_ ?_ ?_ ?_ (hval f hv)
      · rw [mx_get_set, if_pos rfl, hl1]
      · rw [mx_get_set, if_neg hne, mx_get_set, if_pos rfl]
      · intro q h1 h2; rw [mx_get_set, if_neg h1, mx_get_set, if_neg h2]
      · omega
  · have hcap : xs.length = cap := by omega
    have hcc : cap < 131072 := by omega
    have hane : a ≠ h.1 := fun w => by rw [w, hz.2] at g2; cases g2
    -- the heap behind the doubling
    obtain ⟨h1, eh1⟩ : ∃ h1, h1 = mx_set (mx_push h (2 * cap) (.inl (false, 2 * cap, fun _ => 0))) h.1 (.inl (false, 2 * cap, va_cpy f (fun _ => 0) 0 0 cap)) := ⟨_, rfl⟩
    have p1 : mx_get h1 (z + k) = some (.inr (6, [.ref a, .int (nI xs.length)])) := by rw [eh1, mx_get_set, if_neg (by omega), mx_get_push, if_neg (by omega)]; exact g1
    have p2 : mx_get h1 h.1 = some (.inl (false, 2 * cap, va_cpy f (fun _ => 0) 0 0 cap)) := by rw [eh1, mx_get_set, if_pos rfl]
    have hcopy : Go 0 0 [(0, .ref a), (1, .int (nI (2 * cap)))] [] h (some (.ref h.1), h1) := by rw [eh1]; exact go_copyOf g2 hz.2 (by omega) (by omega)
    have s1 : mx_get (mx_set h1 (z + k) (.inr (6, [.ref h.1, .int (nI xs.length)]))) (z + k) = some (.inr (6, [.ref h.1, .int (nI xs.length)])) := by rw [mx_get_set, if_pos rfl]
    have s2 : mx_get (mx_set h1 (z + k) (.inr (6, [.ref h.1, .int (nI xs.length)]))) h.1 = some (.inl (false, 2 * cap, va_cpy f (fun _ => 0) 0 0 cap)) := by rw [mx_get_set, if_neg (by omega)]; exact p2
    refine ⟨_, mx_set (mx_set (mx_set h1 (z + k) (.inr (6, [.ref h.1, .int (nI xs.length)]))) h.1 (.inl (false, 2 * cap, upd (va_cpy f (fun _ => 0) 0 0 cap) xs.length v))) (z + k) (.inr (6, [.ref h.1, .int (nI (xs.length + 1))])), _, mx_to.steps 1 rfl (go_getf rfl g1 rfl (mx_to.steps 1 rfl (go_getf rfl g1 rfl (go_alen rfl g2 (go_icmp rfl (fun w => ?_) (fun _ => ?_)))))), ?_, hP⟩
    · have := (nI_ltI (by omega) (by omega)).mp (of_decide_eq_true w)
      omega
    · refine mx_to.steps 2 rfl (go_getf rfl g1 rfl (mx_to.steps 2 rfl (go_getf rfl g1 rfl (go_alen rfl g2 (mx_to.steps 1 rfl ?_)))))
      have e2 : (2 : Int32) * nI cap = nI (2 * cap) := by
        have : (2 : Int32) = nI 2 := by decide
        rw [this, pk_mul]
      show Go 5 24 _ [.int (2 * nI cap), .ref a, .ref (z + k)] _ _
      rw [e2]
      refine go_call (q := (some (.ref h.1), h1)) rfl rfl rfl hcopy ?_
      refine go_putf rfl p1 (Nat.le_of_ble_eq_true rfl) rfl rfl ?_
      exact fin _ h.1 (2 * cap) _ s1 s2 (by omega) (by omega) (by omega)
    · refine grow hcc _ (upd (va_cpy f (fun _ => 0) 0 0 cap) xs.length v) _ ?_ ?_ ?_ ?_ ?_ ?_ (by omega) (hval _ (fun i w hi => ?_))
      · rw [eh1]; rfl
      · rw [eh1]; rfl
      · rw [eh1]; rfl
      · rw [mx_get_set, if_pos rfl, hl1]
      · rw [mx_get_set, if_neg (by omega), mx_get_set, if_pos rfl]
      · intro q q1 q2
        rw [mx_get_set, if_neg q1, mx_get_set, if_neg q2, mx_get_set, if_neg q1, eh1, mx_get_set, if_neg q2, mx_get_push, if_neg q2]
      · have hi2 : i < cap := by
          have := (List.getElem?_eq_some_iff.mp hi).1
          omega
        rw [pk_cpy_in (Nat.zero_le _) (by omega)]
        have := hv i w hi
        simpa using this
theorem c_refill {n v : Int32} (hk : S k = some (.inl xs)) (hn : n.toNatClampNeg ≤ 131072) (hP : P none (xu S k (.inl (List.replicate n.toNatClampNeg v)))) : xw z NK g 8 0 [(0, .ref (z + k)), (1, .int n), (2, .int v)] [] S P := by
  have loop : ∀ (d i : Nat), i + d = n.toNatClampNeg → xw z NK g 8 7 [(0, .ref (z + k)), (1, .int n), (2, .int v), (3, .int (nI i))] [] (xu S k (.inl (List.replicate i v))) P := by
    intro d
    induction d with
    | zero =>
      intro i hi
      refine xw.steps 2 (fun _ => rfl) (xw.icmp rfl (fun _ => ?_) (fun w => ?_))
      · refine xw.ret rfl (fun _ => rfl) ?_
        rw [show i = n.toNatClampNeg by omega]
        exact hP
      · exfalso
        have w := of_decide_eq_false w
        by_cases h0 : n < 0
        · exact w (Int32.le_iff_toInt_le.mpr (by rw [nI_toInt (by omega)]; have := Int32.lt_iff_toInt_lt.mp h0; simp at this; omega))
        · obtain ⟨e, hl⟩ := x_cl h0
          rw [e] at w
          exact w (nI_le (by omega) (by omega))
    | succ d ih =>
      intro i hi
      have h0 : ¬ n < 0 := fun w => by rw [x_clneg w] at hi; omega
      obtain ⟨e, hl⟩ := x_cl h0
      refine xw.steps 2 (fun _ => rfl) (xw.icmp rfl (fun w => ?_) (fun _ => ?_))
      · have w := of_decide_eq_true w
        rw [e] at w
        exact absurd w (nI_ge (by omega) (by omega))
      · refine xw.steps 2 (fun _ => rfl) (xw.callN (o := k) rfl rfl rfl (xu_self _ _ _) rfl rfl (c_append (xs := List.replicate i v) (xu_self _ _ _) (by rw [List.length_replicate]; omega) ?_))
        rw [xu_xu, ← List.replicate_succ']
        refine xw.steps 2 (fun _ => rfl) ?_
        rw [nI_1]
        exact ih (i + 1) (by omega)
  intro c h hI
  obtain ⟨a, cap, f, g1, g2, l1, l2, hv, hne, -, up, -⟩ := hI.nums hk
  have h1 : xI z NK c g (mx_set h (z + k) (.inr (6, [.ref a, .int (nI 0)]))) (xu S k (.inl (List.replicate 0 v))) := by
    refine up _ f _ rfl rfl rfl ?_ ?_ ?_ (Nat.zero_le _) (fun i w hi => by simp at hi)
    · rw [mx_get_set, if_pos rfl]; rfl
    · rw [mx_get_set, if_neg hne]; exact g2
    · intro q h1 _; rw [mx_get_set, if_neg h1]
  obtain ⟨v1, h', S', a1, a2, a3⟩ := loop n.toNatClampNeg 0 (Nat.zero_add _) c _ h1
  refine ⟨v1, h', S', mx_to.steps 2 rfl (go_putf rfl g1 (Nat.le_of_ble_eq_true rfl) rfl rfl (mx_to.steps 2 rfl ?_)), a2, a3⟩
  exact a1
end XN
