/-! EVERY METHOD HAS ITS CONTRACT -/
def mx_both : List mx_I → List (List (Nat × mx_E)) → Prop
  | i :: is, t :: ts => (∀ q ∈ t, mx_ok mx_I0 i q.1 q.2) ∧ mx_both is ts
  | [], [] => True
  | _, _ => False
set_option maxRecDepth 20000 in
theorem mx_both_all : mx_both mx_infos mx_tabs := ⟨ok_0, ok_1, ok_2, ok_3, ok_4, ok_5, ok_6, ok_7, ok_8, ok_9, ok_10, ok_11, ok_12, ok_13, ok_14, ok_15, ok_16, ok_17, ok_18, ok_19, ok_20, ok_21, ok_22, ok_23, ok_24, ok_25, ok_26, ok_27, ok_28, ok_29, ok_30, ok_31, ok_32, ok_33, ok_34, ok_35, ok_36, ok_37, ok_38, ok_39, ok_40, ok_41, ok_42, ok_43, ok_44, ok_45, ok_46, ok_47, ok_48, ok_49, ok_50, ok_51, ok_52, ok_53, ok_54, ok_55, ok_56, ok_57, ok_58, ok_59, ok_60, ok_61, ok_62, ok_63, ok_64, ok_65, ok_66, ok_67, ok_68, ok_69, ok_70, ok_71, ok_72, ok_73, ok_74, ok_75, ok_76, ok_77, ok_78, ok_79, ok_80, ok_81, ok_82, ok_83, ok_84, ok_85, ok_86, ok_87, ok_88, ok_89, ok_90, ok_91, ok_92, ok_93, ok_94, ok_95, ok_96, ok_97, ok_98, ok_99, ok_100, ok_101, ok_102, ok_103, ok_104, ok_105, ok_106, ok_107, ok_108, ok_109, ok_110, ok_111, ok_112, ok_113, ok_114, ok_115, ok_116, ok_117, ok_118, ok_119, ok_120, ok_121, ok_122, ok_123, ok_124, ok_125, ok_126, ok_127, ok_128, ok_129, ok_130, ok_131, ok_132, ok_133, ok_134, ok_135, ok_136, ok_137, ok_138, ok_139, ok_140, ok_141, ok_142, ok_143, ok_144, ok_145, trivial⟩
theorem mx_both_at : ∀ (is : List mx_I) (ts : List (List (Nat × mx_E))), mx_both is ts → ∀ (k : Nat) (t : List (Nat × mx_E)), ts[k]? = some t → ∃ i, is[k]? = some i ∧ ∀ q ∈ t, mx_ok mx_I0 i q.1 q.2 := by
  intro is
  induction is with
  | nil =>
    intro ts h k t hk
    cases ts with
    | nil => simp at hk
    | cons a b => exact h.elim
  | cons i is ih =>
    intro ts h k t hk
    cases ts with
    | nil => exact h.elim
    | cons a b =>
      cases k with
      | zero =>
        have : a = t := by simpa using hk
        exact ⟨i, rfl, this ▸ h.1⟩
      | succ k => exact ih b h.2 k t (by simpa using hk)
theorem mx_find_mem : ∀ (t : List (Nat × mx_E)) (pc : Nat) (e : mx_E), mx_find t pc = some e → (pc, e) ∈ t := by
  intro t
  induction t with
  | nil => intro pc e h; cases h
  | cons q r ih =>
    intro pc e h
    unfold mx_find at h
    by_cases hq : q.1 = pc
    · rw [if_pos hq] at h
      cases h
      rw [← hq]
      exact List.mem_cons_self
    · rw [if_neg hq] at h
      exact List.mem_cons_of_mem _ (ih pc e h)
theorem mx_M_ok {mi pc : Nat} {e : mx_E} (h : mx_M mi pc = some e) : ∃ i, mx_I0 mi = some i ∧ mx_ok mx_I0 i pc e := by
  unfold mx_M at h
  split at h
  · rename_i t ht
    obtain ⟨i, h1, h2⟩ := mx_both_at _ _ mx_both_all mi t ht
    exact ⟨i, h1, h2 _ (mx_find_mem t pc e h)⟩
  · cases h
theorem mx_M_mono : mx_mono mx_M := by
  intro mi pc f h
  obtain ⟨i, -, h2⟩ := mx_M_ok h
  exact h2.1
theorem mx_plain : ∀ i ∈ mx_infos, plainName i.1.cls = true := by decide +kernel
/-- what a method's table comes to is what the method does on the machine -/
theorem mx_all (l : Launch) (D : va_G) (cI cZ : ClassId) : ∀ (mi : Nat) (i : mx_I), mx_I0 mi = some i → mx_Met mx_M l D cI cZ mi i := by
  refine mx_sound mx_M_mono (fun mi i hi => Or.inl ⟨mx_plain i (List.mem_of_getElem? hi), fun pc en hM => ?_⟩)
  obtain ⟨j, h1, h2⟩ := mx_M_ok hM
  cases hi.symm.trans h1
  exact h2
