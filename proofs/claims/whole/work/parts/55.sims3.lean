/-! ... the bytes, the locals, the jumps -/
theorem toA_kd {t : TX} (w : TW t) {p q : Nat} (hp : p < t.2.1.length) (hq : q < t.2.1.length) : (tx_toA t (nI p)).2.2.1 = t.2.2.1 ∧ (nAt (tx_toA t (nI p)).2.1 (nI q) = nAt t.2.1 (nI q) ∨ nAt (tx_toA t (nI p)).2.1 (nI q) = 0 ∨ nAt (tx_toA t (nI p)).2.1 (nI q) = 1) := by
  have h60 := w.d60
  unfold tx_toA
  split
  · exact ⟨rfl, .inl rfl⟩
  split
  · exact ⟨rfl, .inl rfl⟩
  have e7 : (tx_keepB t).2.1.length = t.2.1.length := by
    unfold tx_keepB
    split
    · rfl
    · exact nSet_len _ _ _
  have e6 : (tx_load (tx_keepB t) (nI p)).2.1 = (tx_keepB t).2.1 ∧ (tx_load (tx_keepB t) (nI p)).2.2.1 = t.2.2.1 := by
    unfold tx_load tx_keepB
    repeat' split
    all_goals exact ⟨rfl, rfl⟩
  refine ⟨e6.2, ?_⟩
  show nAt (nSet (tx_load (tx_keepB t) (nI p)).2.1 (nI p) 1) (nI q) = nAt t.2.1 (nI q) ∨ nAt (nSet (tx_load (tx_keepB t) (nI p)).2.1 (nI p) 1) (nI q) = 0 ∨ nAt (nSet (tx_load (tx_keepB t) (nI p)).2.1 (nI p) 1) (nI q) = 1
  rw [e6.1, nAt_setq (by rw [e7]; exact hq) (by rw [e7]; omega)]
  split
  · exact .inr (.inr rfl)
  unfold tx_keepB
  split
  · exact .inl rfl
  · show nAt (nSet t.2.1 t.2.2.2.2 0) (nI q) = nAt t.2.1 (nI q) ∨ nAt (nSet t.2.1 t.2.2.2.2 0) (nI q) = 0 ∨ _
    rw [nAt_setq hq (by omega)]
    split
    · exact .inr (.inl rfl)
    · exact .inl rfl
theorem settle1_kd {t : TX} (w : TW t) {p q : Nat} (hp : p < t.2.1.length) (hq : q < t.2.1.length) : (tx_settle1 t (nI p)).2.2.1 = t.2.2.1 ∧ (nAt (tx_settle1 t (nI p)).2.1 (nI q) = nAt t.2.1 (nI q) ∨ nAt (tx_settle1 t (nI p)).2.1 (nI q) = 0 ∨ nAt (tx_settle1 t (nI p)).2.1 (nI q) = 1) := by
  have h60 := w.d60
  unfold tx_settle1
  split
  · exact ⟨rfl, .inl rfl⟩
  split
  · refine ⟨rfl, ?_⟩
    show nAt (nSet t.2.1 (nI p) 0) (nI q) = nAt t.2.1 (nI q) ∨ nAt (nSet t.2.1 (nI p) 0) (nI q) = 0 ∨ _
    rw [nAt_setq hq (by omega)]
    split
    · exact .inr (.inl rfl)
    · exact .inl rfl
  · obtain ⟨h1, h2⟩ := toA_kd w hp hq
    have lu := (toA_mv w hp).2.1
    refine ⟨h1, ?_⟩
    show nAt (nSet (tx_toA t (nI p)).2.1 (nI p) 0) (nI q) = nAt t.2.1 (nI q) ∨ nAt (nSet (tx_toA t (nI p)).2.1 (nI p) 0) (nI q) = 0 ∨ nAt (nSet (tx_toA t (nI p)).2.1 (nI p) 0) (nI q) = 1
    rw [nAt_setq (by rw [lu]; exact hq) (by rw [lu]; omega)]
    split
    · exact .inr (.inl rfl)
    · exact h2
def fre (k : Int32) (t : TX) (q : Nat) : Prop := ¬ (nAt t.2.1 (nI q) = 3 ∧ nAt t.2.2.1 (nI q) = k)
theorem sl_mv (k : Int32) (n : Nat) : ∀ (i : Nat) (t : TX), TW t → i + n ≤ t.2.1.length → Mv t (tx_sl k n i t) ∧ ∀ q, q < t.2.1.length → ((i ≤ q ∧ q < i + n) ∨ fre k t q) → fre k (tx_sl k n i t) q := by
  induction n with
  | zero =>
    intro i t w _
    refine ⟨Mv.refl w, fun q _ h => ?_⟩
    rcases h with h | h
    · omega
    · exact h
  | succ n ih =>
    intro i t w hi
    rw [tx_sl]
    by_cases c : nAt t.2.1 (nI i) = 3 ∧ nAt t.2.2.1 (nI i) = k
    · rw [if_pos c, show i + 1 - i = 1 by omega]
      have e : tx_settle 1 i t = tx_settle1 t (nI i) := rfl
      rw [e]
      have h1 := settle1_mv w (p := i) (by omega)
      have l1 := h1.2.1
      obtain ⟨h2, h3⟩ := ih (i + 1) (tx_settle1 t (nI i)) h1.1 (by rw [l1]; omega)
      refine ⟨h1.trans h2, fun q hq h => h3 q (by rw [l1]; exact hq) ?_⟩
      by_cases c2 : i + 1 ≤ q ∧ q < i + 1 + n
      · exact .inl c2
      · right
        by_cases e : q = i
        · subst e
          intro c3
          rw [settle1_slot w (by omega) hq (.inl rfl)] at c3
          exact absurd c3.1 (by decide)
        · have hf : fre k t q := h.resolve_left (fun c4 => by omega)
          obtain ⟨k1, k2⟩ := settle1_kd w (p := i) (by omega) hq
          intro c3
          rw [k1] at c3
          rcases k2 with k2 | k2 | k2
          · exact hf ⟨k2.symm.trans c3.1, c3.2⟩
          · rw [k2] at c3; exact absurd c3.1 (by decide)
          · rw [k2] at c3; exact absurd c3.1 (by decide)
    · rw [if_neg c]
      obtain ⟨h2, h3⟩ := ih (i + 1) t w (by omega)
      refine ⟨h2, fun q hq h => h3 q hq ?_⟩
      by_cases c2 : i + 1 ≤ q ∧ q < i + 1 + n
      · exact .inl c2
      · right
        by_cases e : q = i
        · subst e; exact c
        · exact h.resolve_left (fun c4 => by omega)
theorem mLa_ne {L : Nat → Int32} {k k' v : Int32} (h : ¬ k' = k) : mLa (mL L k v) k' = mLa L k' := by
  unfold mLa mL
  by_cases c : m_hasL k' = true
  · rw [if_pos c, if_pos c]
    by_cases c2 : m_hasL k = true
    · rw [if_pos c2]
      have h1 : ¬ k' < 0 ∧ k' < 16 := by simpa [m_hasL] using c
      have h2 : ¬ k < 0 ∧ k < 16 := by simpa [m_hasL] using c2
      obtain ⟨a, ha, rfl⟩ := nI_of h1.1
      obtain ⟨b, hb, rfl⟩ := nI_of h2.1
      rw [nI_clamp ha, nI_clamp hb]
      have : a ≠ b := fun e => h (by rw [e])
      simp [upd, this]
    · rw [if_neg c2]
  · rw [if_neg c, if_neg c]
theorem om_j {ΛM : Int32 → KM} {k' l : Int32} (hk : k6 k') (κM : KM) (m : MM) : oneM ΛM (23 + k', l) κM m = if a_holds k' m.2.2.1 m.2.1 = true then ΛM l m else κM m := by
  have h0 : ¬ (23 + k' = 0) ∧ ¬ (23 + k' < 7) ∧ ¬ (23 + k' < 20) ∧ ¬ (23 + k' = 20) ∧ ¬ (23 + k' = 21) ∧ ¬ (23 + k' = 22) := by
    rcases hk with rfl | rfl | rfl | rfl | rfl | rfl <;> decide
  have e : 23 + k' - 23 = k' := by rw [Int32.add_comm, Int32.add_sub_cancel]
  unfold oneM m_jumps
  simp only [h0.1, h0.2.1, h0.2.2.1, h0.2.2.2.1, h0.2.2.2.2.1, h0.2.2.2.2.2, if_false, e]
theorem om_23 {ΛM : Int32 → KM} {l : Int32} (κM : KM) (m : MM) : oneM ΛM (23, l) κM m = if m.2.2.1 = m.2.1 then ΛM l m else κM m := by
  have := om_j (ΛM := ΛM) (k' := 0) (l := l) (.inl rfl) κM m
  rw [show (23 : Int32) + 0 = 23 from by decide] at this
  rw [this]
  show (if decide (m.2.2.1 = m.2.1) = true then _ else _) = _
  simp only [decide_eq_true_eq]
theorem om_16 {ΛM : Int32 → KM} (κM : KM) (k : Int32) (sl : List Int32) (a b pq fl : Int32) (L V : Nat → Int32) : oneM ΛM (16, k) κM (sl, a, b, pq, -1, 0, fl, L, V) = if m_hasW (m_ba a b) = true then κM (sl, a, b, pq, -1, 0, fl, L, mV V (m_ba a b).toInt32 (m_sb V a b (nAt sl k))) else some (2, 0, fl, L, V) := by
  have e : m_work (sl, a, b, pq, -1, 0, fl, L, V) 16 k = (sl, a, b, pq, (if m_hasW (m_ba a b) = true then -1 else 2), 0, fl, L, (if m_hasW (m_ba a b) = true then mV V (m_ba a b).toInt32 (m_sb V a b (nAt sl k)) else V)) := rfl
  unfold oneM
  simp only [e]
  rw [if_neg (by decide), if_neg (by decide), if_pos (by decide)]
  by_cases c : m_hasW (m_ba a b) = true
  · simp only [if_pos c, if_true]
  · simp only [if_neg c]; rfl
theorem one_20 (Λ : Int32 → KK) (κ : KK) (st L V : Nat → Int32) (f k : Int32) : one Λ (20, k) κ ⟨st, none, L, V, f⟩ = (if m_hasW (m_ba (st 0) (st 1)) = true then κ ⟨s_pop st 3, none, L, mV V (m_ba (st 0) (st 1)).toInt32 (m_sb V (st 0) (st 1) (st 2)), f⟩ else some (2, 0, f, L, V)) := by
  rw [one, if_neg (pne (by decide)), if_neg (pne (by decide)), if_neg (pne (by decide)), if_neg (pne (by decide)), if_neg (pne (by decide)), if_neg (pne (by decide)), if_neg (pne (by decide)), if_neg (pne (by decide)), if_neg (pne (by decide)), if_neg (pne (by decide)), if_neg (pne (by decide)), if_neg (pne (by decide)), if_neg (pne (by decide)), if_neg (pne (by decide)), if_neg (pne (by decide)), if_neg (pne (by decide)), if_neg (pne (by decide)), if_neg (pne (by decide)), if_neg (pne (by decide)), if_neg (pne (by decide)), if_pos rfl]
theorem one_18 (Λ : Int32 → KK) (κ : KK) (st L V : Nat → Int32) (f k : Int32) : one Λ (18, k) κ ⟨st, none, L, V, f⟩ = κ ⟨st, some k, L, V, f⟩ := by
  rw [one, if_neg (pne (by decide)), if_neg (pne (by decide)), if_neg (pne (by decide)), if_neg (pne (by decide)), if_neg (pne (by decide)), if_neg (pne (by decide)), if_neg (pne (by decide)), if_neg (pne (by decide)), if_neg (pne (by decide)), if_neg (pne (by decide)), if_neg (pne (by decide)), if_neg (pne (by decide)), if_neg (pne (by decide)), if_neg (pne (by decide)), if_neg (pne (by decide)), if_neg (pne (by decide)), if_neg (pne (by decide)), if_neg (pne (by decide)), if_pos rfl]
theorem one_12p (Λ : Int32 → KK) (κ : KK) (st L V : Nat → Int32) (f k q : Int32) : one Λ (12, k) κ ⟨st, some q, L, V, f⟩ = (if st 0 = q then Λ k ⟨s_pop st 1, none, L, V, f⟩ else κ ⟨st, none, L, V, f⟩) := by
  rw [one, if_pos rfl]
section SIM3
variable {Λ : Int32 → KK} {ΛM : Int32 → KM} {t : TX} {d : Nat}
theorem sim_2 {k : Int32} (hd : t.2.1.length = d + 1) (w : TW t) : Sm [(7, k)] (one Λ (2, k)) ΛM t (tx_store t k) := by
  unfold tx_store
  have e0 : t.2.1.length - 1 = d := by omega
  rw [e0]
  obtain ⟨m1, f1⟩ := sl_mv k d 0 t w (by omega)
  have l1 := m1.2.1
  have m2 := toA_mv m1.1 (p := d) (by rw [l1]; omega)
  have l2 := m2.2.1
  have hA := (tx_toA_AB (tx_sl k d 0 t) (nI d)).1
  have fr : ∀ q, q < d → fre k (tx_toA (tx_sl k d 0 t) (nI d)) q := by
    intro q hq
    have hf := f1 q (by omega) (.inl ⟨by omega, by omega⟩)
    obtain ⟨k1, k2⟩ := toA_kd m1.1 (p := d) (q := q) (by rw [l1]; omega) (by rw [l1]; omega)
    intro c3
    rw [k1] at c3
    rcases k2 with k2 | k2 | k2
    · exact hf ⟨k2.symm.trans c3.1, c3.2⟩
    · rw [k2] at c3; exact absurd c3.1 (by decide)
    · rw [k2] at c3; exact absurd c3.1 (by decide)
  refine Sm_pre (m1.trans m2) ?_
  generalize tx_toA (tx_sl k d 0 t) (nI d) = u at *
  have hlu : u.2.1.length = d + 1 := by rw [l2, l1, hd]
  refine ⟨[], quiet_nil, rfl, fun κ κM hκ σ m hR => ?_⟩
  have ha := top_A hR hlu hA
  have h60 := hR.1.d60
  have bs := hR.2.1
  obtain ⟨st, pd, L, V, f⟩ := σ
  obtain ⟨sl, a, b, pq, sa, ev, fl, L', V'⟩ := m
  obtain ⟨b1, b2, b3, b4, b5, b6, b7⟩ := bs
  simp only [Sg.pd, Sg.f, Sg.L, Sg.V, Sg.st] at b1 b3 b4 b5 b6 b7 ha
  subst b1 b3 b4 b5 b6 b7 ha
  show Ole (κ ⟨s_pop st 1, none, mL L' k (st 0), V', fl⟩) (κM (sl, st 0, b, pq, -1, 0, fl, mL L' k (st 0), V'))
  refine hκ _ _ (rel_drop (t := tx_write u 7 k) (c := 1) (d := d) (TW_img hR.1 _) hR.2.2 hlu ⟨rfl, b2, rfl, rfl, rfl, rfl, rfl⟩ (fun j => rfl) (fun q hq => ?_))
  show locv u (sl, st 0, b, pq, -1, 0, fl, mL L' k (st 0), V') q = locv u (sl, st 0, b, pq, -1, 0, fl, L', V') q
  unfold locv
  by_cases c1 : u.2.2.2.1 = nI q
  · rw [if_pos c1, if_pos c1]
  rw [if_neg c1, if_neg c1]
  by_cases c2 : u.2.2.2.2 = nI q
  · rw [if_pos c2, if_pos c2]
  rw [if_neg c2, if_neg c2]
  rcases hR.1.knd q (by omega) with c | c | c | c | c
  · rw [if_pos c, if_pos c]
  · have c0 : ¬ nAt u.2.1 (nI q) = 0 := by rw [c]; decide
    rw [if_neg c0, if_neg c0, if_pos c, if_pos c]
  · have c0 : ¬ nAt u.2.1 (nI q) = 0 := by rw [c]; decide
    have c4 : ¬ nAt u.2.1 (nI q) = 2 := by rw [c]; decide
    rw [if_neg c0, if_neg c0, if_neg c4, if_neg c4]
    exact mLa_ne (fun e => fr q hq ⟨c, e⟩)
  · exact absurd c c1
  · exact absurd c c2
theorem sim_20 {k : Int32} (hd : t.2.1.length = d + 3) (w : TW t) : Sm [(16, nI (t.2.1.length - 3))] (one Λ (20, k)) ΛM t (tx_byte t) := by
  unfold tx_byte
  have e0 : t.2.1.length - 3 + 1 - (t.2.1.length - 3) = 1 := by omega
  have e1 : t.2.1.length - 3 = d := by omega
  have e2 : nI t.2.1.length - 3 = nI d := by rw [hd, show (3 : Int32) = nI 3 from rfl, nI_subn (by omega)]; rfl
  rw [e0, e1, e2]
  obtain ⟨m1, f1⟩ := settle_mv 1 d t w (by omega)
  have l1 := m1.2.1
  have s1 := f1 d (by omega) (.inl ⟨by omega, by omega⟩)
  obtain ⟨hm, hlu, hA, hB, hv⟩ := meet_all (t := tx_settle 1 d t) (d := d + 1) (m0 := false) (by rw [l1]; omega) m1.1
  have s2 := meet_slot m1.1 (d := d + 1) (q := d) (by rw [l1]; omega) (by omega) s1 false
  refine Sm_pre (m1.trans hm) ?_
  generalize tx_meet (tx_settle 1 d t) false = u at *
  refine ⟨[], quiet_nil, rfl, fun κ κM hκ σ m hR => ?_⟩
  have h60 := hR.1.d60
  have bs := hR.2.1
  have hv : m.2.1 = σ.st 0 ∧ m.2.2.1 = σ.st 1 := by
    rcases hv σ m hR with ⟨e, e1, e2⟩ | ⟨e, -⟩
    · exact ⟨e1, e2⟩
    · cases e
  have hs := hR.2.2 d (by omega)
  rw [locv_slot hR.1 (by omega) s2, hlu, show d + 1 + 2 - 1 - d = 2 by omega] at hs
  obtain ⟨st, pd, L, V, f⟩ := σ
  obtain ⟨sl, a, b, pq, sa, ev, fl, L', V'⟩ := m
  obtain ⟨b1, b2, b3, b4, b5, b6, b7⟩ := bs
  obtain ⟨v1, v2⟩ := hv
  simp only [Sg.pd, Sg.f, Sg.L, Sg.V, Sg.st] at b1 b3 b4 b5 b6 b7 v1 v2 hs
  subst b1 b3 b4 b5 b6 b7 v1 v2
  rw [one_20]
  show Ole _ (oneM ΛM (16, nI d) κM _)
  rw [om_16, hs]
  refine Ole.ite (fun _ => ?_) (fun _ => Ole.refl _)
  have hT : TW (tx_write u.1 16 (nI d)) := TW_img hR.1 _
  have hV : Vs (tx_write u.1 16 (nI d)) (st, none, L', V', fl) (sl, st 0, st 1, pq, -1, 0, fl, L', V') := hR.2.2
  have hL : (tx_write u.1 16 (nI d)).2.1.length = d + 3 := hlu
  generalize mV V' (m_ba (st 0) (st 1)).toInt32 (m_sb V' (st 0) (st 1) (st 2)) = V2
  refine hκ _ _ (rel_drop (c := 3) (d := d) hT hV hL (σ' := (s_pop st 3, none, L', V2, fl)) (m' := (sl, st 0, st 1, pq, -1, 0, fl, L', V2)) ⟨rfl, b2, rfl, rfl, rfl, rfl, rfl⟩ (fun j => rfl) (fun q hq => ?_))
  exact locv_low (t := tx_write u.1 16 (nI d)) (d := d + 1) h60 hA hB (by omega) rfl rfl (by omega)
/-- the jumps: J: what a label means, its row in slots -/
theorem sim_10 {k x : Int32} (J : ∀ σ m, Rel (TR d) σ m → Ole (Λ k σ) (ΛM k m)) (hd : t.2.1.length = d) (w : TW t) : Sm [(20, k)] (one Λ (10, k)) ΛM t (tx_row (tx_write (tx_settle (t.2.1.length - 0) 0 t) 20 k) x) := by
  rw [hd, Nat.sub_zero]
  obtain ⟨m1, f1⟩ := settle_mv d 0 t w (by omega)
  have l1 := m1.2.1
  have s1 : ∀ q, q < d → nAt (tx_settle d 0 t).2.1 (nI q) = 0 := fun q hq => f1 q (by omega) (.inl ⟨by omega, by omega⟩)
  refine Sm_pre m1 ?_
  generalize tx_settle d 0 t = u at *
  refine ⟨[], quiet_nil, rfl, fun κ κM hκ σ m hR => ?_⟩
  have hj := J σ m (rel_row hR.1 hR.2.2 hR.2.1 (by omega) s1 rfl (fun q hq => by rw [l1, hd]) [])
  obtain ⟨st, pd, L, V, f⟩ := σ
  have b1 : pd = none := hR.2.1.pd
  subst b1
  rw [one_10]
  exact hj
theorem sim_13 {k x : Int32} (hx : x = nI d) (hd : t.2.1.length = d) (w : TW t) : Sm [(0, k)] (one Λ (13, k)) ΛM t (tx_row (tx_write (tx_settle (t.2.1.length - 0) 0 t) 0 k) x) := by
  have h60 := w.d60
  rw [hd, Nat.sub_zero, hx, tx_row_eq _ (by omega)]
  obtain ⟨m1, f1⟩ := settle_mv d 0 t w (by omega)
  have l1 := m1.2.1
  have s1 : ∀ q, q < d → nAt (tx_settle d 0 t).2.1 (nI q) = 0 := fun q hq => f1 q (by omega) (.inl ⟨by omega, by omega⟩)
  refine Sm_pre m1 ?_
  generalize tx_settle d 0 t = u at *
  refine ⟨[], quiet_nil, rfl, fun κ κM hκ σ m hR => ?_⟩
  have hj := rel_row hR.1 hR.2.2 hR.2.1 (by omega) s1 rfl (fun q hq => by rw [l1, hd]) (tx_write u 0 k).1
  obtain ⟨st, pd, L, V, f⟩ := σ
  have b1 : pd = none := hR.2.1.pd
  subst b1
  rw [one_13]
  exact hκ _ _ hj
theorem sim_if {n n' k : Int32} {go : Int32 → Bool} (J : ∀ σ m, Rel (TR d) σ m → Ole (Λ k σ) (ΛM k m)) (hd : t.2.1.length = d + 1) (w : TW t)
    (h1 : ∀ (κ : KK) (st L V : Nat → Int32) (f : Int32), one Λ (n, k) κ ⟨st, none, L, V, f⟩ = if go (st 0) = true then Λ k ⟨s_pop st 1, none, L, V, f⟩ else κ ⟨s_pop st 1, none, L, V, f⟩)
    (h2 : ∀ (κM : KM) sl a b pq fl L V, oneM ΛM (n', k) κM (sl, a, b, pq, -1, 0, fl, L, V) = if go a = true then ΛM k (sl, a, b, pq, -1, 0, fl, L, V) else κM (sl, a, b, pq, -1, 0, fl, L, V)) : Sm [(n', k)] (one Λ (n, k)) ΛM t (tx_goIf t n' k) := by
  unfold tx_goIf
  have e0 : t.2.1.length - 1 - 0 = d := by omega
  have e1 : nI t.2.1.length - 1 = nI d := by rw [hd]; exact nI_pred d
  rw [e0, e1]
  obtain ⟨m1, f1⟩ := settle_mv d 0 t w (by omega)
  have l1 := m1.2.1
  have m2 := toA_mv m1.1 (p := d) (by rw [l1]; omega)
  have l2 := m2.2.1
  have hA := (tx_toA_AB (tx_settle d 0 t) (nI d)).1
  have s1 : ∀ q, q < d → nAt (tx_toA (tx_settle d 0 t) (nI d)).2.1 (nI q) = 0 := fun q hq => toA_slot m1.1 (by rw [l1]; omega) (by rw [l1]; omega) (by omega) (f1 q (by omega) (.inl ⟨by omega, by omega⟩))
  refine Sm_pre (m1.trans m2) ?_
  generalize tx_toA (tx_settle d 0 t) (nI d) = u at *
  have hlu : u.2.1.length = d + 1 := by rw [l2, l1, hd]
  refine ⟨[], quiet_nil, rfl, fun κ κM hκ σ m hR => ?_⟩
  have ha := top_A hR hlu hA
  have hj := fun (b : Bs ⟨s_pop σ.st 1, none, σ.L, σ.V, σ.f⟩ m) => J _ _ (rel_row (d := d) hR.1 hR.2.2 b (by omega) s1 rfl (fun q hq => by rw [hlu]; show σ.st (d - 1 - q + 1) = _; congr 1; omega) [])
  have hk := fun (b : Bs ⟨s_pop σ.st 1, none, σ.L, σ.V, σ.f⟩ m) => hκ _ _ (rel_drop (t := tx_write u n' k) (c := 1) (d := d) (TW_img hR.1 _) hR.2.2 hlu b (fun j => rfl) (fun q _ => rfl))
  have bs := hR.2.1
  obtain ⟨st, pd, L, V, f⟩ := σ
  obtain ⟨sl, a, b, pq, sa, ev, fl, L', V'⟩ := m
  obtain ⟨b1, b2, b3, b4, b5, b6, b7⟩ := bs
  simp only [Sg.pd, Sg.f, Sg.L, Sg.V, Sg.st] at b1 b3 b4 b5 b6 b7 ha
  subst b1 b3 b4 b5 b6 b7 ha
  rw [h1]
  show Ole _ (oneM ΛM (n', k) κM _)
  rw [h2]
  exact Ole.ite (fun _ => hj ⟨rfl, b2, rfl, rfl, rfl, rfl, rfl⟩) (fun _ => hk ⟨rfl, b2, rfl, rfl, rfl, rfl, rfl⟩)
theorem sim_11 {k : Int32} (J : ∀ σ m, Rel (TR d) σ m → Ole (Λ k σ) (ΛM k m)) (hd : t.2.1.length = d + 1) (w : TW t) : Sm [(21, k)] (one Λ (11, k)) ΛM t (tx_goIf t 21 k) :=
  sim_if (go := fun a => decide (a = 0)) J hd w (fun κ st L V f => by rw [one_11]; simp only [decide_eq_true_eq]) (fun κM sl a b pq fl L V => rfl)
theorem sim_12 {k : Int32} (J : ∀ σ m, Rel (TR d) σ m → Ole (Λ k σ) (ΛM k m)) (hd : t.2.1.length = d + 1) (w : TW t) : Sm [(22, k)] (one Λ (12, k)) ΛM t (tx_goIf t 22 k) :=
  sim_if (go := fun a => decide (¬ a = 0)) J hd w (fun κ st L V f => by rw [one_12]; by_cases c : st 0 = 0 <;> simp [c]) (fun κM sl a b pq fl L V => rfl)
theorem sim_case {k l : Int32} (J : ∀ σ m, Rel (TR d) σ m → Ole (Λ l σ) (ΛM l m)) (hd : t.2.1.length = d + 1) (w : TW t) : Sm [(23, l)] (fun κ => one Λ (18, k) (one Λ (12, l) κ)) ΛM t (tx_case t k l) := by
  unfold tx_case
  have e0 : t.2.1.length - 1 - 0 = d := by omega
  have e1 : nI t.2.1.length - 1 = nI d := by rw [hd]; exact nI_pred d
  rw [e0, e1]
  obtain ⟨m1, f1⟩ := settle_mv d 0 t w (by omega)
  have l1 := m1.2.1
  have m2 := toA_mv m1.1 (p := d) (by rw [l1]; omega)
  have l2 := m2.2.1
  have hA := (tx_toA_AB (tx_settle d 0 t) (nI d)).1
  have s1 : ∀ q, q < d → nAt (tx_toA (tx_settle d 0 t) (nI d)).2.1 (nI q) = 0 := fun q hq => toA_slot m1.1 (by rw [l1]; omega) (by rw [l1]; omega) (by omega) (f1 q (by omega) (.inl ⟨by omega, by omega⟩))
  refine Sm_pre (m1.trans m2) ?_
  generalize tx_toA (tx_settle d 0 t) (nI d) = u at *
  have hlu : u.2.1.length = d + 1 := by rw [l2, l1, hd]
  have h60 := m2.1.d60
  have wu := m2.1
  have wn : ∀ x : List II, TW (x, u.2.1, u.2.2.1, -1, nI d) := fun x => by
    refine ⟨wu.len, wu.d60, .inl rfl, .inr ⟨d, by show d < u.2.1.length; omega, rfl⟩, fun _ => rfl, fun p hp hr => ?_, fun p hp => ?_⟩
    · have hp : p < u.2.1.length := hp
      have hr : nI d = nI p := hr.resolve_left (fun c => nI_ne_neg (by omega : p < 2 ^ 31) c.symm)
      exact wu.reg p hp (.inl (hA.trans hr))
    · have hp : p < u.2.1.length := hp
      rcases Nat.lt_or_ge p d with c | c
      · exact .inl (s1 p c)
      · have e : p = d := by omega
        subst e
        exact .inr (.inr (.inr (.inr rfl)))
  have hq1 : quiet [(1, k)] := by
    intro i hi
    rw [List.mem_singleton.mp hi]
    exact ⟨(show ¬ (1 : Int32) < 1 by decide), (show (1 : Int32) < 7 by decide)⟩
  refine ⟨[(1, k)], hq1, by show (u.1 ++ [(1, k)]) ++ [(23, l)] = _; rw [List.append_assoc], fun κ κM hκ σ m hR => ?_⟩
  have ha := top_A hR hlu hA
  have hj := fun (m' : MM) (hm : m'.1 = m.1) (b : Bs ⟨s_pop σ.st 1, none, σ.L, σ.V, σ.f⟩ m') => J _ _ (rel_row (d := d) hR.1 hR.2.2 b (by omega) s1 hm (fun q hq => by rw [hlu]; show σ.st (d - 1 - q + 1) = _; congr 1; omega) [])
  have vs := hR.2.2
  have bs := hR.2.1
  obtain ⟨st, pd, L, V, f⟩ := σ
  obtain ⟨sl, a, b, pq, sa, ev, fl, L', V'⟩ := m
  obtain ⟨b1, b2, b3, b4, b5, b6, b7⟩ := bs
  simp only [Sg.pd, Sg.f, Sg.L, Sg.V, Sg.st] at b1 b3 b4 b5 b6 b7 ha
  subst b1 b3 b4 b5 b6 b7 ha
  have em : mv [(1, k)] (sl, st 0, b, pq, -1, 0, fl, L', V') = (sl, k, st 0, pq, -1, 0, fl, L', V') := by
    show m_move (sl, st 0, b, pq, -1, 0, fl, L', V') 1 k = _
    rw [m_move, if_pos rfl]
  rw [fkM_app, fkM_quiet hq1, em]
  show Ole (one Λ (18, k) (one Λ (12, l) κ) (st, none, L', V', fl)) (oneM ΛM (23, l) κM (sl, k, st 0, pq, -1, 0, fl, L', V'))
  rw [om_23, one_18, one_12p]
  refine Ole.ite (fun _ => hj _ rfl ⟨rfl, b2, rfl, rfl, rfl, rfl, rfl⟩) (fun _ => hκ _ _ ⟨wn _, ⟨rfl, b2, rfl, rfl, rfl, rfl, rfl⟩, fun q hq => ?_⟩)
  have hq : q < u.2.1.length := hq
  show locv (_, u.2.1, u.2.2.1, -1, nI d) _ q = st (u.2.1.length - 1 - q)
  rcases Nat.lt_or_ge q d with c | c
  · have h1 := vs q hq
    rw [locv_slot wu hq (s1 q c)] at h1
    rw [locv_slot (wn _) hq (s1 q c)]
    exact h1
  · have e : q = d := by omega
    subst e
    unfold locv
    show (if (-1 : Int32) = nI q then _ else if nI q = nI q then st 0 else _) = _
    rw [if_neg (fun c : (-1 : Int32) = nI q => nI_ne_neg (by omega) c.symm), if_pos rfl, hlu, show q + 1 - 1 - q = 0 by omega]
theorem sim_cgo {k c l : Int32} (hk : k6 k) (hc : c = 11 ∨ c = 12) (J : ∀ σ m, Rel (TR d) σ m → Ole (Λ l σ) (ΛM l m)) (hd : t.2.1.length = d + 2) (w : TW t) : ∃ k', k6 k' ∧ Sm [(23 + k', l)] (fun κ => one Λ (8, k) (one Λ (c, l) κ)) ΛM t (tx_cgo t k c l) := by
  unfold tx_cgo
  have e0 : t.2.1.length - 2 - 0 = d := by omega
  rw [e0]
  obtain ⟨m1, f1⟩ := settle_mv d 0 t w (by omega)
  have l1 := m1.2.1
  obtain ⟨hm, hlu, hA, hB, hv⟩ := meet_all (t := tx_settle d 0 t) (d := d) (m0 := true) (by rw [l1, hd]) m1.1
  have s1 : ∀ q, q < d → nAt (tx_meet (tx_settle d 0 t) true).1.2.1 (nI q) = 0 := fun q hq => meet_slot m1.1 (d := d) (q := q) (by rw [l1, hd]) hq (f1 q (by omega) (.inl ⟨by omega, by omega⟩)) true
  generalize tx_meet (tx_settle d 0 t) true = u at *
  have hk2 : k6 (if c = 11 then a_opp (if u.2 = true then a_mir k else k) else (if u.2 = true then a_mir k else k)) := by
    have : k6 (if u.2 = true then a_mir k else k) := by
      split
      · exact k6_mir hk
      · exact hk
    split
    · exact k6_opp this
    · exact this
  have hw : ∀ σ m, Rel u.1 σ m → a_holds (if c = 11 then a_opp (if u.2 = true then a_mir k else k) else (if u.2 = true then a_mir k else k)) m.2.2.1 m.2.1 = decide (c = 12 ↔ a_holds k (σ.st 1) (σ.st 0) = true) := by
    intro σ m hR
    have h1 : a_holds (if u.2 = true then a_mir k else k) m.2.2.1 m.2.1 = a_holds k (σ.st 1) (σ.st 0) := by
      rcases hv σ m hR with ⟨e, e1, e2⟩ | ⟨-, e, e1, e2⟩
      · rw [e, e1, e2]; rfl
      · rw [e, e1, e2, if_pos rfl, a_mir_holds hk]
    have h2 : k6 (if u.2 = true then a_mir k else k) := by
      split
      · exact k6_mir hk
      · exact hk
    rcases hc with rfl | rfl
    · rw [if_pos rfl, a_opp_holds h2, h1]
      cases a_holds k (σ.st 1) (σ.st 0) <;> decide
    · rw [if_neg (by decide), h1]
      cases a_holds k (σ.st 1) (σ.st 0) <;> decide
  simp only
  generalize (if c = 11 then a_opp (if u.2 = true then a_mir k else k) else (if u.2 = true then a_mir k else k)) = k' at *
  refine ⟨k', hk2, Sm_pre (m1.trans hm) ?_⟩
  refine ⟨[], quiet_nil, rfl, fun κ κM hκ σ m hR => ?_⟩
  have h60 := hR.1.d60
  have hj := fun (b : Bs ⟨s_pop σ.st 2, none, σ.L, σ.V, σ.f⟩ m) => J _ _ (rel_row (d := d) hR.1 hR.2.2 b (by omega) s1 rfl (fun q hq => by rw [hlu]; show σ.st (d - 1 - q + 2) = _; congr 1; omega) [])
  have hkk := fun (b : Bs ⟨s_pop σ.st 2, none, σ.L, σ.V, σ.f⟩ m) => hκ _ _ (rel_drop (t := tx_write u.1 (23 + k') l) (c := 2) (d := d) (TW_img hR.1 _) hR.2.2 hlu b (fun j => rfl) (fun q _ => rfl))
  have hh := hw σ m hR
  have om : ∀ κM : KM, oneM ΛM (23 + k', l) κM m = if a_holds k' m.2.2.1 m.2.1 = true then ΛM l m else κM m := by
    intro κM
    exact om_j hk2 κM m
  have bs := hR.2.1
  obtain ⟨st, pd, L, V, f⟩ := σ
  obtain ⟨sl, a, b, pq, sa, ev, fl, L', V'⟩ := m
  obtain ⟨b1, b2, b3, b4, b5, b6, b7⟩ := bs
  simp only [Sg.pd, Sg.f, Sg.L, Sg.V, Sg.st] at b1 b3 b4 b5 b6 b7
  subst b1 b3 b4 b5 b6 b7
  show Ole (one Λ (8, k) (one Λ (c, l) κ) _) (oneM ΛM (23 + k', l) κM _)
  rw [om, hh, one_8]
  have hz : a_compare k (st 1) (st 0) = 0 ↔ ¬ a_holds k (st 1) (st 0) = true := by
    unfold a_compare
    cases a_holds k (st 1) (st 0) <;> decide
  rcases hc with rfl | rfl
  · rw [one_11, s_psh0, s_pp]
    by_cases c : a_holds k (st 1) (st 0) = true
    · rw [if_neg (fun e => hz.mp e c), if_neg (by simp [c])]
      exact hkk ⟨rfl, b2, rfl, rfl, rfl, rfl, rfl⟩
    · rw [if_pos (hz.mpr c), if_pos (by simp [c])]
      exact hj ⟨rfl, b2, rfl, rfl, rfl, rfl, rfl⟩
  · rw [one_12, s_psh0, s_pp]
    by_cases c : a_holds k (st 1) (st 0) = true
    · rw [if_neg (fun e => hz.mp e c), if_pos (by simp [c])]
      exact hj ⟨rfl, b2, rfl, rfl, rfl, rfl, rfl⟩
    · rw [if_pos (hz.mpr c), if_neg (by simp [c])]
      exact hkk ⟨rfl, b2, rfl, rfl, rfl, rfl, rfl⟩
end SIM3
