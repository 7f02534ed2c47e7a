/-! THE REFERENCE: does as one theorem (wip/gen95.py) -/
def Rp (d : Nat) (ro st : Nat → Int32) : Prop := ∀ j, j < d → ro (d - 1 - j) = st j
theorem rp_push {d : Nat} {ro st : Nat → Int32} (h : Rp d ro st) (v : Int32) : Rp (d + 1) (upd ro d v) (s_psh st v) := by
  intro j hj
  unfold s_psh
  by_cases h0 : j = 0
  · subst h0; simp [upd]
  · rw [if_neg h0, ← h (j - 1) (by omega), show d + 1 - 1 - j = d - 1 - (j - 1) by omega]
    have : ¬ d - 1 - (j - 1) = d := by omega
    simp [upd, this]
theorem rp_pop {d a : Nat} {ro st : Nat → Int32} (h : Rp (d + a) ro st) : Rp d ro (s_pop st a) := by
  intro j hj
  have := h (j + a) (by omega)
  rw [show d + a - 1 - (j + a) = d - 1 - j by omega] at this
  exact this
theorem rp_at {d j : Nat} {ro st : Nat → Int32} (h : Rp d ro st) (i : Nat) (hi : i + j + 1 = d) : ro i = st j := by
  rw [← h j (by omega)]; congr 1; omega
section MO9
variable {Bk : xS} {z : Nat} {NK : List Nat} {g : mx_G} {S : xS} {P : Option Value → xS → Prop} {th sz va fu hg : Int32} {nu ag lo wo he go ro : Nat → Int32} {c : List II}
/-- what does comes to -/
abbrev Dz (n k : Int32) (d : Nat) (st lo wo : Nat → Int32) (e : Int32) (d' : Nat) (st' lo' wo' ro' : Nat → Int32) : Prop :=
  (e = 0 ∧ d' = d - tkn n + gvn n ∧ Rp d' ro' st' ∧ (∀ Λ κ f, one Λ (n, k) κ ⟨st, none, lo, wo, f⟩ = κ ⟨st', none, lo', wo', f⟩)) ∨ ((e = 2 ∨ e = 3) ∧ lo' = lo ∧ wo' = wo ∧ ∀ Λ κ f, one Λ (n, k) κ ⟨st, none, lo, wo, f⟩ = some (e, 0, f, lo, wo))

theorem d_0 {m : Nat} {k : Int32} {st : Nat → Int32} (hM : MO Bk z S th sz va fu (nI (m)) nu ag lo wo he go ro) (hR : Rp (m) ro st) (hd : m ≤ 60) (hP : ∀ e d' st' lo' wo' ro' S', MO Bk z S' th sz va fu (nI d') nu ag lo' wo' he go ro' → Dz 0 k (m) st lo wo e d' st' lo' wo' ro' → P (some (.int e)) S') : xw z NK g 136 0 [(0, .ref (z + 52)), (1, .int 0), (2, .int k)] [] S P := by
  have ht : tkn 0 = 0 := by decide
  have hg : gvn 0 = 1 := by decide
  exact c_does0 hM (by omega) (fun S' h => hP 0 (m + 1) (s_psh st k) lo wo _ S' h (.inl ⟨rfl, by omega, rp_push hR k, fun _ _ _ => rfl⟩))
theorem d_1 {m : Nat} {k : Int32} {st : Nat → Int32} (hM : MO Bk z S th sz va fu (nI (m)) nu ag lo wo he go ro) (hR : Rp (m) ro st) (hd : m ≤ 60) (hk : ¬ k < 0 ∧ k < 16) (hP : ∀ e d' st' lo' wo' ro' S', MO Bk z S' th sz va fu (nI d') nu ag lo' wo' he go ro' → Dz 1 k (m) st lo wo e d' st' lo' wo' ro' → P (some (.int e)) S') : xw z NK g 136 0 [(0, .ref (z + 52)), (1, .int 1), (2, .int k)] [] S P := by
  have ht : tkn 1 = 0 := by decide
  have hg : gvn 1 = 1 := by decide
  have kl : m_hasL k = true := by simpa [m_hasL] using hk
  have e1 : mLa lo k = lo k.toNatClampNeg := by simp [mLa, kl]
  exact c_does1 hM (by omega) hk (fun S' h => hP 0 (m + 1) (s_psh st (mLa lo k)) lo wo _ S' h (.inl ⟨rfl, by omega, by rw [← e1]; exact rp_push hR _, fun _ _ _ => rfl⟩))
theorem d_2 {m : Nat} {k : Int32} {st : Nat → Int32} (hM : MO Bk z S th sz va fu (nI (m + 1)) nu ag lo wo he go ro) (hR : Rp (m + 1) ro st) (hd : m + 1 ≤ 60) (hk : ¬ k < 0 ∧ k < 16) (hP : ∀ e d' st' lo' wo' ro' S', MO Bk z S' th sz va fu (nI d') nu ag lo' wo' he go ro' → Dz 2 k (m + 1) st lo wo e d' st' lo' wo' ro' → P (some (.int e)) S') : xw z NK g 136 0 [(0, .ref (z + 52)), (1, .int 2), (2, .int k)] [] S P := by
  have ht : tkn 2 = 1 := by decide
  have hg : gvn 2 = 0 := by decide
  have r0 := rp_at (j := 0) hR (m) (by omega)
  have kl : m_hasL k = true := by simpa [m_hasL] using hk
  have e1 : mL lo k (st 0) = upd lo k.toNatClampNeg (ro m) := by simp [mL, kl, r0]
  exact c_does2 hM (by omega) hk (fun S' h => hP 0 m (s_pop st 1) _ wo ro S' h (.inl ⟨rfl, by omega, rp_pop hR, fun _ _ _ => by rw [← e1]; rfl⟩))
theorem d_3 {m : Nat} {k : Int32} {st : Nat → Int32} (hM : MO Bk z S th sz va fu (nI (m + 1)) nu ag lo wo he go ro) (hR : Rp (m + 1) ro st) (hd : m + 1 ≤ 60) (hP : ∀ e d' st' lo' wo' ro' S', MO Bk z S' th sz va fu (nI d') nu ag lo' wo' he go ro' → Dz 3 k (m + 1) st lo wo e d' st' lo' wo' ro' → P (some (.int e)) S') : xw z NK g 136 0 [(0, .ref (z + 52)), (1, .int 3), (2, .int k)] [] S P := by
  have ht : tkn 3 = 1 := by decide
  have hg : gvn 3 = 1 := by decide
  have r0 := rp_at (j := 0) hR (m) (by omega)
  refine c_does3 hM (by omega) (fun S' h => ?_)
  rw [r0] at h ⊢
  cases hb : m_hasW (st 0).toInt64 with
  | true => rw [if_pos rfl]; exact hP 0 (m + 1) (s_psh (s_pop st 1) (mVa wo (st 0))) lo wo _ S' h (.inl ⟨rfl, by omega, rp_push (rp_pop hR) _, fun _ _ _ => by rw [show ∀ (Λ : Int32 → KK) (κ : KK) (f : Int32), one Λ (3, k) κ ⟨st, none, lo, wo, f⟩ = (if m_hasW (st 0).toInt64 = true then κ ⟨s_psh (s_pop st 1) (mVa wo (st 0)), none, lo, wo, f⟩ else some (2, 0, f, lo, wo)) from fun _ _ _ => rfl, if_pos hb]⟩)
  | false => rw [if_neg (by decide)]; exact hP 2 (m + 1) st lo wo _ S' h (.inr ⟨.inl rfl, rfl, rfl, fun _ _ _ => by rw [show ∀ (Λ : Int32 → KK) (κ : KK) (f : Int32), one Λ (3, k) κ ⟨st, none, lo, wo, f⟩ = (if m_hasW (st 0).toInt64 = true then κ ⟨s_psh (s_pop st 1) (mVa wo (st 0)), none, lo, wo, f⟩ else some (2, 0, f, lo, wo)) from fun _ _ _ => rfl, hb, if_neg (by decide)]⟩)
theorem d_4 {m : Nat} {k : Int32} {st : Nat → Int32} (hM : MO Bk z S th sz va fu (nI (m + 2)) nu ag lo wo he go ro) (hR : Rp (m + 2) ro st) (hd : m + 2 ≤ 60) (hP : ∀ e d' st' lo' wo' ro' S', MO Bk z S' th sz va fu (nI d') nu ag lo' wo' he go ro' → Dz 4 k (m + 2) st lo wo e d' st' lo' wo' ro' → P (some (.int e)) S') : xw z NK g 136 0 [(0, .ref (z + 52)), (1, .int 4), (2, .int k)] [] S P := by
  have ht : tkn 4 = 2 := by decide
  have hg : gvn 4 = 0 := by decide
  have r0 := rp_at (j := 0) hR (m + 1) (by omega)
  have r1 := rp_at (j := 1) hR (m) (by omega)
  refine c_does4 hM (by omega) (fun S' h => ?_)
  rw [r0, r1] at h; rw [r0]
  cases hb : m_hasW (st 0).toInt64 with
  | true => rw [if_pos rfl]; exact hP 0 m (s_pop st 2) lo _ ro S' h (.inl ⟨rfl, by omega, rp_pop hR, fun _ _ _ => by rw [show ∀ (Λ : Int32 → KK) (κ : KK) (f : Int32), one Λ (4, k) κ ⟨st, none, lo, wo, f⟩ = (if m_hasW (st 0).toInt64 = true then κ ⟨s_pop st 2, none, lo, mV wo (st 0) (st 1), f⟩ else some (2, 0, f, lo, wo)) from fun _ _ _ => rfl, if_pos hb]⟩)
  | false => rw [if_neg (by decide)]; exact hP 2 m st lo _ ro S' h (.inr ⟨.inl rfl, rfl, by simp [mV, hb], fun _ _ _ => by rw [show ∀ (Λ : Int32 → KK) (κ : KK) (f : Int32), one Λ (4, k) κ ⟨st, none, lo, wo, f⟩ = (if m_hasW (st 0).toInt64 = true then κ ⟨s_pop st 2, none, lo, mV wo (st 0) (st 1), f⟩ else some (2, 0, f, lo, wo)) from fun _ _ _ => rfl, hb, if_neg (by decide)]⟩)
theorem d_5 {m : Nat} {k : Int32} {st : Nat → Int32} (hM : MO Bk z S th sz va fu (nI (m + 1)) nu ag lo wo he go ro) (hR : Rp (m + 1) ro st) (hd : m + 1 ≤ 60) (hP : ∀ e d' st' lo' wo' ro' S', MO Bk z S' th sz va fu (nI d') nu ag lo' wo' he go ro' → Dz 5 k (m + 1) st lo wo e d' st' lo' wo' ro' → P (some (.int e)) S') : xw z NK g 136 0 [(0, .ref (z + 52)), (1, .int 5), (2, .int k)] [] S P := by
  have ht : tkn 5 = 1 := by decide
  have hg : gvn 5 = 1 := by decide
  have r0 := rp_at (j := 0) hR (m) (by omega)
  refine c_does5 hM (by omega) (fun S' h => ?_)
  rw [r0] at h
  exact hP 0 (m + 1) (s_psh (s_pop st 1) (-st 0)) lo wo _ S' h (.inl ⟨rfl, by omega, rp_push (rp_pop hR) _, fun _ _ _ => rfl⟩)
theorem d_6 {m : Nat} {k : Int32} {st : Nat → Int32} (hM : MO Bk z S th sz va fu (nI (m + 1)) nu ag lo wo he go ro) (hR : Rp (m + 1) ro st) (hd : m + 1 ≤ 60) (hP : ∀ e d' st' lo' wo' ro' S', MO Bk z S' th sz va fu (nI d') nu ag lo' wo' he go ro' → Dz 6 k (m + 1) st lo wo e d' st' lo' wo' ro' → P (some (.int e)) S') : xw z NK g 136 0 [(0, .ref (z + 52)), (1, .int 6), (2, .int k)] [] S P := by
  have ht : tkn 6 = 1 := by decide
  have hg : gvn 6 = 1 := by decide
  have r0 := rp_at (j := 0) hR (m) (by omega)
  refine c_does6 hM (by omega) (fun S' h => ?_)
  rw [r0] at h
  exact hP 0 (m + 1) (s_psh (s_pop st 1) (st 0 ^^^ (-1))) lo wo _ S' h (.inl ⟨rfl, by omega, rp_push (rp_pop hR) _, fun _ _ _ => rfl⟩)
theorem d_7 {m : Nat} {k : Int32} {st : Nat → Int32} (hM : MO Bk z S th sz va fu (nI (m + 2)) nu ag lo wo he go ro) (hR : Rp (m + 2) ro st) (hd : m + 2 ≤ 60) (hP : ∀ e d' st' lo' wo' ro' S', MO Bk z S' th sz va fu (nI d') nu ag lo' wo' he go ro' → Dz 7 k (m + 2) st lo wo e d' st' lo' wo' ro' → P (some (.int e)) S') : xw z NK g 136 0 [(0, .ref (z + 52)), (1, .int 7), (2, .int k)] [] S P := by
  have ht : tkn 7 = 2 := by decide
  have hg : gvn 7 = 1 := by decide
  have r0 := rp_at (j := 0) hR (m + 1) (by omega)
  have r1 := rp_at (j := 1) hR (m) (by omega)
  refine c_does7 hM (by omega) ⟨fun hz S' h => ?_, fun hz S' h => ?_⟩
  · rw [r0, r1] at h; rw [r0] at hz
    exact hP 0 (m + 1) (s_psh (s_pop st 2) (a_calc k (st 1) (st 0))) lo wo _ S' h (.inl ⟨rfl, by omega, rp_push (rp_pop hR) _, fun _ _ _ => by rw [one_7, if_neg hz]⟩)
  · rw [r0] at hz
    exact hP 3 m st lo wo ro S' h (.inr ⟨.inr rfl, rfl, rfl, fun _ _ _ => by rw [one_7, if_pos hz]⟩)
theorem d_8 {m : Nat} {k : Int32} {st : Nat → Int32} (hM : MO Bk z S th sz va fu (nI (m + 2)) nu ag lo wo he go ro) (hR : Rp (m + 2) ro st) (hd : m + 2 ≤ 60) (hP : ∀ e d' st' lo' wo' ro' S', MO Bk z S' th sz va fu (nI d') nu ag lo' wo' he go ro' → Dz 8 k (m + 2) st lo wo e d' st' lo' wo' ro' → P (some (.int e)) S') : xw z NK g 136 0 [(0, .ref (z + 52)), (1, .int 8), (2, .int k)] [] S P := by
  have ht : tkn 8 = 2 := by decide
  have hg : gvn 8 = 1 := by decide
  have r0 := rp_at (j := 0) hR (m + 1) (by omega)
  have r1 := rp_at (j := 1) hR (m) (by omega)
  refine c_does8 hM (by omega) (fun S' h => ?_)
  rw [r0, r1] at h
  exact hP 0 (m + 1) (s_psh (s_pop st 2) (a_compare k (st 1) (st 0))) lo wo _ S' h (.inl ⟨rfl, by omega, rp_push (rp_pop hR) _, fun _ _ _ => rfl⟩)
theorem d_9 {m : Nat} {k : Int32} {st : Nat → Int32} (hM : MO Bk z S th sz va fu (nI (m + 2)) nu ag lo wo he go ro) (hR : Rp (m + 2) ro st) (hd : m + 2 ≤ 60) (hP : ∀ e d' st' lo' wo' ro' S', MO Bk z S' th sz va fu (nI d') nu ag lo' wo' he go ro' → Dz 9 k (m + 2) st lo wo e d' st' lo' wo' ro' → P (some (.int e)) S') : xw z NK g 136 0 [(0, .ref (z + 52)), (1, .int 9), (2, .int k)] [] S P := by
  have ht : tkn 9 = 2 := by decide
  have hg : gvn 9 = 2 := by decide
  have r0 := rp_at (j := 0) hR (m + 1) (by omega)
  have r1 := rp_at (j := 1) hR (m) (by omega)
  refine c_does9 hM (by omega) (fun S' h => ?_)
  rw [r0, r1] at h
  exact hP 0 (m + 2) (s_psh (s_psh (s_pop st 2) (st 0)) (a_compare k (st 1) (st 0))) lo wo _ S' h (.inl ⟨rfl, by omega, rp_push (rp_push (rp_pop hR) _) _, fun _ _ _ => rfl⟩)
theorem d_13 {m : Nat} {k : Int32} {st : Nat → Int32} (hM : MO Bk z S th sz va fu (nI (m)) nu ag lo wo he go ro) (hR : Rp (m) ro st) (hd : m ≤ 60) (hP : ∀ e d' st' lo' wo' ro' S', MO Bk z S' th sz va fu (nI d') nu ag lo' wo' he go ro' → Dz 13 k (m) st lo wo e d' st' lo' wo' ro' → P (some (.int e)) S') : xw z NK g 136 0 [(0, .ref (z + 52)), (1, .int 13), (2, .int k)] [] S P := by
  have ht : tkn 13 = 0 := by decide
  have hg : gvn 13 = 0 := by decide
  exact c_does13 hM (hP 0 m st lo wo ro S hM (.inl ⟨rfl, by omega, hR, fun _ _ _ => rfl⟩))
theorem d_14 {m : Nat} {k : Int32} {st : Nat → Int32} (hM : MO Bk z S th sz va fu (nI (m + 1)) nu ag lo wo he go ro) (hR : Rp (m + 1) ro st) (hd : m + 1 ≤ 60) (hP : ∀ e d' st' lo' wo' ro' S', MO Bk z S' th sz va fu (nI d') nu ag lo' wo' he go ro' → Dz 14 k (m + 1) st lo wo e d' st' lo' wo' ro' → P (some (.int e)) S') : xw z NK g 136 0 [(0, .ref (z + 52)), (1, .int 14), (2, .int k)] [] S P := by
  have ht : tkn 14 = 1 := by decide
  have hg : gvn 14 = 0 := by decide
  have r0 := rp_at (j := 0) hR (m) (by omega)
  exact c_does14 hM (by omega) (fun S' h => hP 0 m (s_pop st 1) lo wo ro S' h (.inl ⟨rfl, by omega, rp_pop hR, fun _ _ _ => rfl⟩))
theorem d_19 {m : Nat} {k : Int32} {st : Nat → Int32} (hM : MO Bk z S th sz va fu (nI (m + 2)) nu ag lo wo he go ro) (hR : Rp (m + 2) ro st) (hd : m + 2 ≤ 60) (hP : ∀ e d' st' lo' wo' ro' S', MO Bk z S' th sz va fu (nI d') nu ag lo' wo' he go ro' → Dz 19 k (m + 2) st lo wo e d' st' lo' wo' ro' → P (some (.int e)) S') : xw z NK g 136 0 [(0, .ref (z + 52)), (1, .int 19), (2, .int k)] [] S P := by
  have ht : tkn 19 = 2 := by decide
  have hg : gvn 19 = 1 := by decide
  have r0 := rp_at (j := 0) hR (m + 1) (by omega)
  have r1 := rp_at (j := 1) hR (m) (by omega)
  refine c_does19 hM (by omega) ⟨fun hz S' h => ?_, fun hz S' h => ?_⟩
  · rw [r0, r1] at h hz
    exact hP 0 (m + 1) (s_psh (s_pop st 2) (m_fb wo (st 0) (st 1))) lo wo _ S' h (.inl ⟨rfl, by omega, rp_push (rp_pop hR) _, fun _ _ _ => by rw [show ∀ (Λ : Int32 → KK) (κ : KK) (f : Int32), one Λ (19, k) κ ⟨st, none, lo, wo, f⟩ = (if m_hasW (m_ba (st 0) (st 1)) = true then κ ⟨s_psh (s_pop st 2) (m_fb wo (st 0) (st 1)), none, lo, wo, f⟩ else some (2, 0, f, lo, wo)) from fun _ _ _ => rfl, if_pos hz]⟩)
  · rw [r0, r1] at hz
    exact hP 2 (m + 1) st lo wo _ S' h (.inr ⟨.inl rfl, rfl, rfl, fun _ _ _ => by rw [show ∀ (Λ : Int32 → KK) (κ : KK) (f : Int32), one Λ (19, k) κ ⟨st, none, lo, wo, f⟩ = (if m_hasW (m_ba (st 0) (st 1)) = true then κ ⟨s_psh (s_pop st 2) (m_fb wo (st 0) (st 1)), none, lo, wo, f⟩ else some (2, 0, f, lo, wo)) from fun _ _ _ => rfl, hz, if_neg (by decide)]⟩)
theorem d_20 {m : Nat} {k : Int32} {st : Nat → Int32} (hM : MO Bk z S th sz va fu (nI (m + 3)) nu ag lo wo he go ro) (hR : Rp (m + 3) ro st) (hd : m + 3 ≤ 60) (hP : ∀ e d' st' lo' wo' ro' S', MO Bk z S' th sz va fu (nI d') nu ag lo' wo' he go ro' → Dz 20 k (m + 3) st lo wo e d' st' lo' wo' ro' → P (some (.int e)) S') : xw z NK g 136 0 [(0, .ref (z + 52)), (1, .int 20), (2, .int k)] [] S P := by
  have ht : tkn 20 = 3 := by decide
  have hg : gvn 20 = 0 := by decide
  have r0 := rp_at (j := 0) hR (m + 2) (by omega)
  have r1 := rp_at (j := 1) hR (m + 1) (by omega)
  have r2 := rp_at (j := 2) hR (m) (by omega)
  refine c_does20 hM (by omega) (fun S' h => ?_)
  rw [r0, r1, r2] at h; rw [r0, r1]
  cases hb : m_hasW (m_ba (st 0) (st 1)) with
  | true => rw [hb, if_pos rfl] at h; rw [if_pos rfl]; exact hP 0 m (s_pop st 3) lo _ ro S' h (.inl ⟨rfl, by omega, rp_pop hR, fun _ _ _ => by rw [show ∀ (Λ : Int32 → KK) (κ : KK) (f : Int32), one Λ (20, k) κ ⟨st, none, lo, wo, f⟩ = (if m_hasW (m_ba (st 0) (st 1)) = true then κ ⟨s_pop st 3, none, lo, mV wo (m_ba (st 0) (st 1)).toInt32 (m_sb wo (st 0) (st 1) (st 2)), f⟩ else some (2, 0, f, lo, wo)) from fun _ _ _ => rfl, if_pos hb]⟩)
  | false => rw [hb, if_neg (by decide)] at h; rw [if_neg (by decide)]; exact hP 2 m st lo wo ro S' h (.inr ⟨.inl rfl, rfl, rfl, fun _ _ _ => by rw [show ∀ (Λ : Int32 → KK) (κ : KK) (f : Int32), one Λ (20, k) κ ⟨st, none, lo, wo, f⟩ = (if m_hasW (m_ba (st 0) (st 1)) = true then κ ⟨s_pop st 3, none, lo, mV wo (m_ba (st 0) (st 1)).toInt32 (m_sb wo (st 0) (st 1) (st 2)), f⟩ else some (2, 0, f, lo, wo)) from fun _ _ _ => rfl, hb, if_neg (by decide)]⟩)
theorem c_does {n k : Int32} {d : Nat} {st : Nat → Int32} (hM : MO Bk z S th sz va fu (nI d) nu ag lo wo he go ro) (hR : Rp d ro st) (hd : d ≤ 60) (hn : n = 0 ∨ n = 1 ∨ n = 2 ∨ n = 3 ∨ n = 4 ∨ n = 5 ∨ n = 6 ∨ n = 7 ∨ n = 8 ∨ n = 9 ∨ n = 13 ∨ n = 14 ∨ n = 19 ∨ n = 20) (hk : n = 1 ∨ n = 2 → ¬ k < 0 ∧ k < 16) (ht : tkn n ≤ d) (hP : ∀ e d' st' lo' wo' ro' S', MO Bk z S' th sz va fu (nI d') nu ag lo' wo' he go ro' → Dz n k d st lo wo e d' st' lo' wo' ro' → P (some (.int e)) S') : xw z NK g 136 0 [(0, .ref (z + 52)), (1, .int n), (2, .int k)] [] S P := by
  rcases hn with rfl | rfl | rfl | rfl | rfl | rfl | rfl | rfl | rfl | rfl | rfl | rfl | rfl | rfl
  · have hx : tkn 0 = 0 := by decide
    exact d_0 hM hR hd hP
  · have hx : tkn 1 = 0 := by decide
    exact d_1 hM hR hd (hk (by decide)) hP
  · have hx : tkn 2 = 1 := by decide
    obtain ⟨m, rfl⟩ : ∃ m, d = m + 1 := ⟨d - 1, by omega⟩
    exact d_2 hM hR hd (hk (by decide)) hP
  · have hx : tkn 3 = 1 := by decide
    obtain ⟨m, rfl⟩ : ∃ m, d = m + 1 := ⟨d - 1, by omega⟩
    exact d_3 hM hR hd hP
  · have hx : tkn 4 = 2 := by decide
    obtain ⟨m, rfl⟩ : ∃ m, d = m + 2 := ⟨d - 2, by omega⟩
    exact d_4 hM hR hd hP
  · have hx : tkn 5 = 1 := by decide
    obtain ⟨m, rfl⟩ : ∃ m, d = m + 1 := ⟨d - 1, by omega⟩
    exact d_5 hM hR hd hP
  · have hx : tkn 6 = 1 := by decide
    obtain ⟨m, rfl⟩ : ∃ m, d = m + 1 := ⟨d - 1, by omega⟩
    exact d_6 hM hR hd hP
  · have hx : tkn 7 = 2 := by decide
    obtain ⟨m, rfl⟩ : ∃ m, d = m + 2 := ⟨d - 2, by omega⟩
    exact d_7 hM hR hd hP
  · have hx : tkn 8 = 2 := by decide
    obtain ⟨m, rfl⟩ : ∃ m, d = m + 2 := ⟨d - 2, by omega⟩
    exact d_8 hM hR hd hP
  · have hx : tkn 9 = 2 := by decide
    obtain ⟨m, rfl⟩ : ∃ m, d = m + 2 := ⟨d - 2, by omega⟩
    exact d_9 hM hR hd hP
  · have hx : tkn 13 = 0 := by decide
    exact d_13 hM hR hd hP
  · have hx : tkn 14 = 1 := by decide
    obtain ⟨m, rfl⟩ : ∃ m, d = m + 1 := ⟨d - 1, by omega⟩
    exact d_14 hM hR hd hP
  · have hx : tkn 19 = 2 := by decide
    obtain ⟨m, rfl⟩ : ∃ m, d = m + 2 := ⟨d - 2, by omega⟩
    exact d_19 hM hR hd hP
  · have hx : tkn 20 = 3 := by decide
    obtain ⟨m, rfl⟩ : ∃ m, d = m + 3 := ⟨d - 3, by omega⟩
    exact d_20 hM hR hd hP
end MO9
