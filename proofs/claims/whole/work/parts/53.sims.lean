/-! WHAT IS WRITTEN for an instruction of the row does what it does -/
abbrev KM : Type := MM → Option Rz
def mR (m : MM) : Rz := (m.2.2.2.2.1, m.2.2.2.2.2.1, m.2.2.2.2.2.2.1, m.2.2.2.2.2.2.2.1, m.2.2.2.2.2.2.2.2)
def oneM (Λ : Int32 → KM) (i : II) (κ : KM) (m : MM) : Option Rz :=
  if i.1 = 0 then κ m else if i.1 < 7 then κ (m_move m i.1 i.2)
  else if i.1 < 20 then (if (m_work m i.1 i.2).2.2.2.2.1 = -1 then κ (m_work m i.1 i.2) else some (mR (m_work m i.1 i.2)))
  else if m_jumps i.1 m.2.1 m.2.2.1 = true then Λ i.2 m else κ m
def fkM (Λ : Int32 → KM) : List II → KM → KM
  | [], κ => κ
  | i :: t, κ => oneM Λ i (fkM Λ t κ)
theorem fkM_app (Λ : Int32 → KM) (a b : List II) (κ : KM) : fkM Λ (a ++ b) κ = fkM Λ a (fkM Λ b κ) := by
  induction a with
  | nil => rfl
  | cons i a ih => simp only [List.cons_append, fkM, ih]
theorem fkM_quiet {Λ : Int32 → KM} {e : List II} (h : quiet e) (κ : KM) (m : MM) : fkM Λ e κ m = κ (mv e m) := by
  induction e generalizing m with
  | nil => rfl
  | cons i e ih =>
    have hi := h i (List.mem_cons_self ..)
    have h0 : ¬ i.1 = 0 := fun c => hi.1 (by rw [c]; decide)
    show oneM Λ i (fkM Λ e κ) m = κ (mv e (m_move m i.1 i.2))
    rw [oneM, if_neg h0, if_pos hi.2]
    exact ih (fun j hj => h j (List.mem_cons_of_mem _ hj)) _
abbrev Bs (σ : Sg) (m : MM) : Prop :=
  (σ.pd = none) ∧
  (m.1.length = 60) ∧
  (m.2.2.2.2.1 = -1) ∧
  (m.2.2.2.2.2.1 = 0) ∧
  (m.2.2.2.2.2.2.1 = σ.f) ∧
  (m.2.2.2.2.2.2.2.1 = σ.L) ∧
  (m.2.2.2.2.2.2.2.2 = σ.V)
theorem Bs.pd {σ : Sg} {m : MM} (w : Bs σ m) : σ.pd = none := w.1
theorem Bs.sl {σ : Sg} {m : MM} (w : Bs σ m) : m.1.length = 60 := w.2.1
theorem Bs.sa {σ : Sg} {m : MM} (w : Bs σ m) : m.2.2.2.2.1 = -1 := w.2.2.1
theorem Bs.ev {σ : Sg} {m : MM} (w : Bs σ m) : m.2.2.2.2.2.1 = 0 := w.2.2.2.1
theorem Bs.f {σ : Sg} {m : MM} (w : Bs σ m) : m.2.2.2.2.2.2.1 = σ.f := w.2.2.2.2.1
theorem Bs.L {σ : Sg} {m : MM} (w : Bs σ m) : m.2.2.2.2.2.2.2.1 = σ.L := w.2.2.2.2.2.1
theorem Bs.V {σ : Sg} {m : MM} (w : Bs σ m) : m.2.2.2.2.2.2.2.2 = σ.V := w.2.2.2.2.2.2
def Vs (t : TX) (σ : Sg) (m : MM) : Prop := ∀ q, q < t.2.1.length → locv t m q = σ.st (t.2.1.length - 1 - q)
def Rel (t : TX) (σ : Sg) (m : MM) : Prop := TW t ∧ Bs σ m ∧ Vs t σ m
theorem TW_img {t : TX} (w : TW t) (x : List II) : TW (x, t.2) := ⟨w.len, w.d60, w.iA, w.iB, w.ab, w.reg, w.knd⟩
theorem Rel_img {t : TX} {σ : Sg} {m : MM} (h : Rel t σ m) (x : List II) : Rel (x, t.2) σ m := ⟨TW_img h.1 x, h.2.1, h.2.2⟩
theorem Mv_rel {t t' : TX} (h : Mv t t') : ∃ e, t'.1 = t.1 ++ e ∧ quiet e ∧ ∀ σ m, Rel t σ m → Rel t' σ (mv e m) := by
  obtain ⟨w, l, e, h1, h2, h3⟩ := h
  refine ⟨e, h1, h2, fun σ m hR => ?_⟩
  obtain ⟨k1, k2⟩ := mv_keep e m
  obtain ⟨-, b, v⟩ := hR
  refine ⟨w, ⟨b.pd, by rw [k1]; exact b.sl, by rw [k2]; exact b.sa, by rw [k2]; exact b.ev, by rw [k2]; exact b.f, by rw [k2]; exact b.L, by rw [k2]; exact b.V⟩, fun q hq => ?_⟩
  rw [l] at hq ⊢
  rw [h3 m b.sl q hq]
  exact v q hq
/-- moves, then x: it does F -/
def Sm (x : List II) (F : KK → KK) (ΛM : Int32 → KM) (t t' : TX) : Prop := ∃ e, quiet e ∧ t'.1 = t.1 ++ (e ++ x) ∧ ∀ (κ : KK) (κM : KM), (∀ σ m, Rel t' σ m → Ole (κ σ) (κM m)) → ∀ σ m, Rel t σ m → Ole (F κ σ) (fkM ΛM (e ++ x) κM m)
theorem quiet_nil : quiet [] := by intro i hi; cases hi
theorem Sm_pre {x : List II} {F : KK → KK} {ΛM : Int32 → KM} {t u t' : TX} (h : Mv t u) (s : Sm x F ΛM u t') : Sm x F ΛM t t' := by
  obtain ⟨e, h1, h2, h3⟩ := Mv_rel h
  obtain ⟨e', s0, s1, s2⟩ := s
  refine ⟨e ++ e', quiet_app h2 s0, by rw [s1, h1, List.append_assoc, List.append_assoc], fun κ κM hκ σ m hR => ?_⟩
  rw [List.append_assoc, fkM_app, fkM_quiet h2]
  exact s2 κ κM hκ σ _ (h3 σ m hR)
/-- a row of such a length, all in slots -/
theorem tw_row (x : List II) {d : Nat} (hd : d ≤ 60) : TW (x, List.replicate d 0, List.replicate d 0, -1, -1) := by
  refine ⟨by simp, by simpa using hd, .inl rfl, .inl rfl, fun _ => rfl, fun p hp hr => ?_, fun p hp => ?_⟩
  · have hp : p < d := by simpa using hp
    rcases hr with hr | hr <;> exact absurd hr.symm (nI_ne_neg (by omega))
  · left
    have hp : p < d := by simpa using hp
    show nAt (List.replicate d 0) (nI p) = 0
    rw [nAt_nat (by omega), List.getD_eq_getElem?_getD, List.getElem?_replicate, if_pos hp]
    rfl
def TR (d : Nat) : TX := ([], List.replicate d 0, List.replicate d 0, -1, -1)
theorem rel_row {t : TX} {σ σ' : Sg} {m m' : MM} {d : Nat} (w : TW t) (v : Vs t σ m) (b : Bs σ' m') (hd : d ≤ t.2.1.length) (h0 : ∀ q, q < d → nAt t.2.1 (nI q) = 0) (hm : m'.1 = m.1) (hs : ∀ q, q < d → σ'.st (d - 1 - q) = σ.st (t.2.1.length - 1 - q)) (x : List II) : Rel (x, List.replicate d 0, List.replicate d 0, -1, -1) σ' m' := by
  have h60 := w.d60
  have w' := tw_row x (d := d) (by omega)
  refine ⟨w', b, fun q hq => ?_⟩
  have hq : q < d := by simpa using hq
  have h1 := v q (by omega)
  rw [locv_slot w (by omega) (h0 q hq)] at h1
  have h2 : nAt (List.replicate d 0) (nI q) = 0 := by
    rw [nAt_nat (by omega), List.getD_eq_getElem?_getD, List.getElem?_replicate, if_pos hq]
    rfl
  rw [locv_slot w' (by simpa using hq) h2, hm, h1]
  show _ = σ'.st ((List.replicate d (0 : Int32)).length - 1 - q)
  rw [List.length_replicate, hs q hq]
theorem tx_row_eq (t : TX) {d : Nat} (hd : d < 2 ^ 31) : tx_row t (nI d) = (t.1, List.replicate d 0, List.replicate d 0, -1, -1) := by
  unfold tx_row
  rw [nI_clamp hd]
section SIM
variable {Λ : Int32 → KK} {ΛM : Int32 → KM} {t : TX} {d : Nat}
/-- what A has when it has the top -/
theorem top_A {σ : Sg} {m : MM} (hR : Rel t σ m) (hd : t.2.1.length = d + 1) (hA : t.2.2.2.1 = nI d) : m.2.1 = σ.st 0 := by
  have := hR.2.2 d (by omega)
  unfold locv at this
  rw [if_pos hA, hd, show d + 1 - 1 - d = 0 by omega] at this
  exact this
theorem rel_setA {σ : Sg} {sl : List Int32} {a b pq sa ev fl : Int32} {L V : Nat → Int32} (hR : Rel t σ (sl, a, b, pq, sa, ev, fl, L, V)) (hd : t.2.1.length = d + 1) (hA : t.2.2.2.1 = nI d) (v : Int32) (x : List II) : Rel (x, t.2) ⟨s_psh (s_pop σ.st 1) v, none, σ.L, σ.V, σ.f⟩ (sl, v, b, pq, sa, ev, fl, L, V) := by
  obtain ⟨w, bs, vs⟩ := hR
  have h60 := w.d60
  refine ⟨TW_img w x, ⟨rfl, bs.sl, bs.sa, bs.ev, bs.f, bs.L, bs.V⟩, fun q hq => ?_⟩
  have hq : q < t.2.1.length := hq
  have h1 := vs q hq
  show locv t (sl, v, b, pq, sa, ev, fl, L, V) q = s_psh (s_pop σ.st 1) v (t.2.1.length - 1 - q)
  unfold locv at h1 ⊢
  by_cases c : nI d = nI q
  · have e : d = q := (nI_eq (by omega) (by omega)).mp c
    rw [if_pos (hA.trans c), hd, show d + 1 - 1 - q = 0 by omega]
    rfl
  · have e : ¬ d = q := fun e => c (by rw [e])
    have hne : ¬ t.2.2.2.1 = nI q := by rw [hA]; exact c
    rw [if_neg hne] at h1 ⊢
    rw [show s_psh (s_pop σ.st 1) v (t.2.1.length - 1 - q) = σ.st (t.2.1.length - 1 - q) from ?_]
    · exact h1
    · unfold s_psh s_pop
      rw [if_neg (by omega)]
      congr 1
      omega
theorem sim_top {n k : Int32} {g : (Nat → Int32) → Int32 → Int32} {ok : Int32 → Bool} (hd : t.2.1.length = d + 1) (w : TW t)
    (h1 : ∀ (κ : KK) (st L V : Nat → Int32) (f : Int32), one Λ (n, k) κ ⟨st, none, L, V, f⟩ = if ok (st 0) = true then κ ⟨s_psh (s_pop st 1) (g V (st 0)), none, L, V, f⟩ else some (2, 0, f, L, V))
    {n' : Int32} (h2 : ∀ (κM : KM) sl a b pq fl L V, oneM ΛM (n', 0) κM (sl, a, b, pq, -1, 0, fl, L, V) = if ok a = true then κM (sl, g V a, b, pq, -1, 0, fl, L, V) else some (2, 0, fl, L, V)) : Sm [(n', 0)] (one Λ (n, k)) ΛM t (tx_top t n') := by
  unfold tx_top
  have e0 : nI t.2.1.length - 1 = nI d := by rw [hd]; exact nI_pred d
  rw [e0]
  have hm := toA_mv w (p := d) (by omega)
  have hA := (tx_toA_AB t (nI d)).1
  have hl := hm.2.1
  refine Sm_pre hm ?_
  generalize tx_toA t (nI d) = u at *
  refine ⟨[], quiet_nil, rfl, fun κ κM hκ σ m hR => ?_⟩
  have ha := top_A hR (by rw [hl, hd]) hA
  obtain ⟨st, pd, L, V, f⟩ := σ
  obtain ⟨sl, a, b, pq, sa, ev, fl, L', V'⟩ := m
  have bs := hR.2.1
  obtain ⟨b1, b2, b3, b4, b5, b6, b7⟩ := bs
  simp only [Sg.pd, Sg.f, Sg.L, Sg.V, Sg.st] at b1 b3 b4 b5 b6 b7 ha
  subst b1 b3 b4 b5 b6 b7 ha
  rw [h1]
  show Ole _ (oneM ΛM (n', 0) κM _)
  rw [h2]
  exact Ole.ite (fun _ => hκ _ _ (rel_setA hR (by rw [hl, hd]) hA _ _)) (fun _ => Ole.refl _)
theorem sim_3 {k : Int32} (hd : t.2.1.length = d + 1) (w : TW t) : Sm [(8, 0)] (one Λ (3, k)) ΛM t (tx_top t 8) :=
  sim_top (g := fun V a => mVa V a) (ok := fun a => m_hasW a.toInt64) hd w (fun κ st L V f => rfl) (fun κM sl a b pq fl L V => by
    show (if (if m_hasW a.toInt64 = true then (-1 : Int32) else 2) = -1 then κM (sl, (if m_hasW a.toInt64 = true then mVa V a else a), b, pq, (if m_hasW a.toInt64 = true then (-1 : Int32) else 2), 0, fl, L, V) else some ((if m_hasW a.toInt64 = true then (-1 : Int32) else 2), 0, fl, L, V)) = _
    cases m_hasW a.toInt64 <;> rfl)
theorem sim_5 {k : Int32} (hd : t.2.1.length = d + 1) (w : TW t) : Sm [(10, 0)] (one Λ (5, k)) ΛM t (tx_top t 10) :=
  sim_top (g := fun _ a => -a) (ok := fun _ => true) hd w (fun κ st L V f => rfl) (fun κM sl a b pq fl L V => rfl)
theorem sim_6 {k : Int32} (hd : t.2.1.length = d + 1) (w : TW t) : Sm [(11, 0)] (one Λ (6, k)) ΛM t (tx_top t 11) :=
  sim_top (g := fun _ a => a ^^^ (-1)) (ok := fun _ => true) hd w (fun κ st L V f => rfl) (fun κM sl a b pq fl L V => rfl)
/-- a value laid that is not made yet -/
theorem tw_lay (w : TW t) (hd : t.2.1.length < 60) {kd de : Int32} (hk : kd = 2 ∨ kd = 3) : TW (tx_lay t kd de) ∧ (∀ m q, q < t.2.1.length → locv (tx_lay t kd de) m q = locv t m q) ∧ ∀ m : MM, locv (tx_lay t kd de) m t.2.1.length = if kd = 2 then de else mLa m.2.2.2.2.2.2.2.1 de := by
  have hlen := w.len
  have kin : ∀ (l : List Int32) (v : Int32) q, q < l.length → l.length < 2 ^ 31 → nAt (l ++ [v]) (nI q) = nAt l (nI q) := by
    intro l v q hq hl
    rw [nAt_nat (by omega), nAt_nat (by omega), List.getD_eq_getElem?_getD, List.getD_eq_getElem?_getD, List.getElem?_append_left hq]
  have klast : ∀ (l : List Int32) (v : Int32), l.length < 2 ^ 31 → nAt (l ++ [v]) (nI l.length) = v := by
    intro l v hl
    rw [nAt_nat hl, List.getD_eq_getElem?_getD, List.getElem?_append_right (Nat.le_refl _), Nat.sub_self]
    rfl
  have rA : ∀ x : Int32, (x = -1 ∨ ∃ p, p < t.2.1.length ∧ x = nI p) → ¬ x = nI t.2.1.length := by
    rintro x (rfl | ⟨p, hp, rfl⟩) c
    · exact nI_ne_neg (by omega) c.symm
    · have := (nI_eq (by omega) (by omega)).mp c; omega
  have rU : ∀ x : Int32, (x = -1 ∨ ∃ p, p < t.2.1.length ∧ x = nI p) → (x = -1 ∨ ∃ p, p < (t.2.1 ++ [kd]).length ∧ x = nI p) := by
    rintro x (rfl | ⟨p, hp, rfl⟩)
    · exact .inl rfl
    · exact .inr ⟨p, by rw [List.length_append]; exact Nat.lt_of_lt_of_le hp (Nat.le_add_right _ _), rfl⟩
  unfold tx_lay
  refine ⟨⟨by simp [hlen], by simp; omega, rU _ w.iA, rU _ w.iB, w.ab, fun p hp hr => ?_, fun p hp => ?_⟩, fun m q hq => ?_, fun m => ?_⟩
  · have hp : p < (t.2.1 ++ [kd]).length := hp
    rw [List.length_append] at hp
    have hp : p < t.2.1.length + 1 := hp
    rcases Nat.lt_or_ge p t.2.1.length with c | c
    · show nAt (t.2.1 ++ [kd]) (nI p) = 1
      rw [kin _ _ p c (by omega)]
      exact w.reg p c hr
    · have e : p = t.2.1.length := by omega
      subst e
      rcases hr with hr | hr
      · exact absurd hr (rA _ w.iA)
      · exact absurd hr (rA _ w.iB)
  · have hp : p < (t.2.1 ++ [kd]).length := hp
    rw [List.length_append] at hp
    have hp : p < t.2.1.length + 1 := hp
    show nAt (t.2.1 ++ [kd]) (nI p) = 0 ∨ nAt (t.2.1 ++ [kd]) (nI p) = 2 ∨ nAt (t.2.1 ++ [kd]) (nI p) = 3 ∨ t.2.2.2.1 = nI p ∨ t.2.2.2.2 = nI p
    rcases Nat.lt_or_ge p t.2.1.length with c | c
    · rw [kin _ _ p c (by omega)]
      exact w.knd p c
    · have e : p = t.2.1.length := by omega
      subst e
      rw [klast _ _ (by omega)]
      rcases hk with h | h
      · exact .inr (.inl h)
      · exact .inr (.inr (.inl h))
  · unfold locv
    show (if t.2.2.2.1 = nI q then _ else if t.2.2.2.2 = nI q then _ else if nAt (t.2.1 ++ [kd]) (nI q) = 0 then _ else if nAt (t.2.1 ++ [kd]) (nI q) = 2 then nAt (t.2.2.1 ++ [de]) (nI q) else mLa _ (nAt (t.2.2.1 ++ [de]) (nI q))) = _
    rw [kin _ _ q hq (by omega), kin _ _ q (by omega) (by omega)]
  · unfold locv
    show (if t.2.2.2.1 = nI t.2.1.length then _ else if t.2.2.2.2 = nI t.2.1.length then _ else if nAt (t.2.1 ++ [kd]) (nI t.2.1.length) = 0 then _ else if nAt (t.2.1 ++ [kd]) (nI t.2.1.length) = 2 then nAt (t.2.2.1 ++ [de]) (nI t.2.1.length) else mLa _ (nAt (t.2.2.1 ++ [de]) (nI t.2.1.length))) = _
    rw [if_neg (rA _ w.iA), if_neg (rA _ w.iB), klast _ _ (by omega)]
    have e2 : nAt (t.2.2.1 ++ [de]) (nI t.2.1.length) = de := by rw [← hlen]; exact klast _ _ (by omega)
    rw [e2, if_neg (by rcases hk with rfl | rfl <;> decide)]
theorem rel_lay {σ : Sg} {m : MM} (hR : Rel t σ m) (hd : t.2.1.length < 60) {kd de v : Int32} (hk : kd = 2 ∨ kd = 3) (hv : (if kd = 2 then de else mLa σ.L de) = v) : Rel (tx_lay t kd de) ⟨s_psh σ.st v, none, σ.L, σ.V, σ.f⟩ m := by
  obtain ⟨w, bs, vs⟩ := hR
  obtain ⟨w', h1, h2⟩ := tw_lay w hd (de := de) hk
  refine ⟨w', ⟨rfl, bs.sl, bs.sa, bs.ev, bs.f, bs.L, bs.V⟩, fun q hq => ?_⟩
  have hl : (tx_lay t kd de).2.1.length = t.2.1.length + 1 := by simp [tx_lay]
  rw [hl] at hq ⊢
  show _ = s_psh σ.st v (t.2.1.length + 1 - 1 - q)
  rcases Nat.lt_or_ge q t.2.1.length with c | c
  · rw [h1 m q c, vs q c]
    unfold s_psh
    rw [if_neg (by omega)]
    congr 1
    omega
  · have e : q = t.2.1.length := by omega
    subst e
    rw [h2, bs.L, hv, show t.2.1.length + 1 - 1 - t.2.1.length = 0 by omega]
    rfl
theorem sim_0 {k : Int32} (hd : t.2.1.length < 60) : Sm [] (one Λ (0, k)) ΛM t (tx_lay t 2 k) := by
  refine ⟨[], quiet_nil, by simp [tx_lay], fun κ κM hκ σ m hR => ?_⟩
  have := rel_lay hR hd (kd := 2) (de := k) (.inl rfl) rfl
  obtain ⟨st, pd, L, V, f⟩ := σ
  have b1 : pd = none := hR.2.1.pd
  subst b1
  rw [one_0]
  exact hκ _ _ this
theorem sim_1 {k : Int32} (hd : t.2.1.length < 60) : Sm [] (one Λ (1, k)) ΛM t (tx_lay t 3 k) := by
  refine ⟨[], quiet_nil, by simp [tx_lay], fun κ κM hκ σ m hR => ?_⟩
  have := rel_lay hR hd (kd := 3) (de := k) (.inr rfl) rfl
  obtain ⟨st, pd, L, V, f⟩ := σ
  have b1 : pd = none := hR.2.1.pd
  subst b1
  rw [one_1]
  exact hκ _ _ this
theorem rel_drop {σ σ' : Sg} {m m' : MM} {c : Nat} (w : TW t) (v : Vs t σ m) (hd : t.2.1.length = d + c) (b : Bs σ' m') (hs : ∀ j, σ'.st j = σ.st (j + c)) (hl : ∀ q, q < d → locv t m' q = locv t m q) : Rel (tx_drop t (nI c)) σ' m' := by
  obtain ⟨w', l, h1, -⟩ := drop_tw w hd
  refine ⟨w', b, fun q hq => ?_⟩
  rw [l] at hq ⊢
  rw [h1 m' q hq, hl q hq, v q (by omega), hs, hd]
  congr 1
  omega
theorem sim_14 {k : Int32} (hd : t.2.1.length = d + 1) : Sm [] (one Λ (14, k)) ΛM t (tx_drop t 1) := by
  refine ⟨[], quiet_nil, by simp [tx_drop], fun κ κM hκ σ m hR => ?_⟩
  have := rel_drop (c := 1) (m' := m) hR.1 hR.2.2 hd (σ' := ⟨s_pop σ.st 1, none, σ.L, σ.V, σ.f⟩) ⟨rfl, hR.2.1.sl, hR.2.1.sa, hR.2.1.ev, hR.2.1.f, hR.2.1.L, hR.2.1.V⟩ (fun j => rfl) (fun q _ => rfl)
  obtain ⟨st, pd, L, V, f⟩ := σ
  have b1 : pd = none := hR.2.1.pd
  subst b1
  rw [one_14]
  exact hκ _ _ this
theorem sim_15 {k : Int32} : Sm [(17, 0)] (one Λ (15, k)) ΛM t (tx_write t 17 0) := by
  refine ⟨[], quiet_nil, rfl, fun κ κM hκ σ m hR => ?_⟩
  obtain ⟨w, bs, vs⟩ := hR
  obtain ⟨st, pd, L, V, f⟩ := σ
  obtain ⟨sl, a, b, pq, sa, ev, fl, L', V'⟩ := m
  obtain ⟨b1, b2, b3, b4, b5, b6, b7⟩ := bs
  simp only [Sg.pd, Sg.f, Sg.L, Sg.V, Sg.st] at b1 b3 b4 b5 b6 b7
  subst b1 b3 b4 b5 b6 b7
  show Ole (if fl = 0 then some (1, 0, fl, L', V') else κ ⟨st, none, L', V', fl - 1⟩) (if (if fl = 0 then (1 : Int32) else -1) = -1 then κM (sl, a, b, pq, (if fl = 0 then (1 : Int32) else -1), 0, (if fl = 0 then fl else fl - 1), L', V') else some ((if fl = 0 then (1 : Int32) else -1), 0, (if fl = 0 then fl else fl - 1), L', V'))
  by_cases c : fl = 0
  · simp only [if_pos c]; exact Ole.refl _
  · simp only [if_neg c, if_true]
    refine hκ _ _ ⟨TW_img w _, ⟨rfl, b2, rfl, rfl, rfl, rfl, rfl⟩, fun q hq => vs q hq⟩
theorem sim_17 {k : Int32} {x : Int32} : Sm [(19, 0)] (one Λ (17, k)) ΛM t (tx_row (tx_write t 19 0) x) := by
  refine ⟨[], quiet_nil, rfl, fun κ κM hκ σ m hR => ?_⟩
  obtain ⟨w, bs, vs⟩ := hR
  obtain ⟨st, pd, L, V, f⟩ := σ
  obtain ⟨sl, a, b, pq, sa, ev, fl, L', V'⟩ := m
  obtain ⟨b1, b2, b3, b4, b5, b6, b7⟩ := bs
  simp only [Sg.pd, Sg.f, Sg.L, Sg.V, Sg.st] at b1 b3 b4 b5 b6 b7
  subst b1 b3 b4 b5 b6 b7
  exact Ole.refl _
theorem sim_16 {k : Int32} {x : Int32} (hd : t.2.1.length = d + 1) (w : TW t) : Sm [(18, 0)] (one Λ (16, k)) ΛM t (tx_row (tx_write (tx_toA t (nI t.2.1.length - 1)) 18 0) x) := by
  have e0 : nI t.2.1.length - 1 = nI d := by rw [hd]; exact nI_pred d
  rw [e0]
  have hm := toA_mv w (p := d) (by omega)
  have hA := (tx_toA_AB t (nI d)).1
  have hl := hm.2.1
  refine Sm_pre hm ?_
  generalize tx_toA t (nI d) = u at *
  refine ⟨[], quiet_nil, rfl, fun κ κM hκ σ m hR => ?_⟩
  have ha := top_A hR (by rw [hl, hd]) hA
  obtain ⟨st, pd, L, V, f⟩ := σ
  obtain ⟨sl, a, b, pq, sa, ev, fl, L', V'⟩ := m
  obtain ⟨b1, b2, b3, b4, b5, b6, b7⟩ := hR.2.1
  simp only [Sg.pd, Sg.f, Sg.L, Sg.V, Sg.st] at b1 b3 b4 b5 b6 b7 ha
  subst b1 b3 b4 b5 b6 b7 ha
  exact Ole.refl _
end SIM
