/-! NO RUN FILLS AN EMPTY ADDRESS BELOW THE HEAP'S SIZE -/
theorem dm_tabs : ∀ t ∈ mx_tabs, ∀ q ∈ t, dm_E q.2 := by
  refine List.forall_mem_cons.mpr ⟨dt_0, ?_⟩
  refine List.forall_mem_cons.mpr ⟨dt_1, ?_⟩
  refine List.forall_mem_cons.mpr ⟨dt_2, ?_⟩
  refine List.forall_mem_cons.mpr ⟨dt_3, ?_⟩
  refine List.forall_mem_cons.mpr ⟨dt_4, ?_⟩
  refine List.forall_mem_cons.mpr ⟨dt_5, ?_⟩
  refine List.forall_mem_cons.mpr ⟨dt_6, ?_⟩
  refine List.forall_mem_cons.mpr ⟨dt_7, ?_⟩
  refine List.forall_mem_cons.mpr ⟨dt_8, ?_⟩
  refine List.forall_mem_cons.mpr ⟨dt_9, ?_⟩
  refine List.forall_mem_cons.mpr ⟨dt_10, ?_⟩
  refine List.forall_mem_cons.mpr ⟨dt_11, ?_⟩
  refine List.forall_mem_cons.mpr ⟨dt_12, ?_⟩
  refine List.forall_mem_cons.mpr ⟨dt_13, ?_⟩
  refine List.forall_mem_cons.mpr ⟨dt_14, ?_⟩
  refine List.forall_mem_cons.mpr ⟨dt_15, ?_⟩
  refine List.forall_mem_cons.mpr ⟨dt_16, ?_⟩
  refine List.forall_mem_cons.mpr ⟨dt_17, ?_⟩
  refine List.forall_mem_cons.mpr ⟨dt_18, ?_⟩
  refine List.forall_mem_cons.mpr ⟨dt_19, ?_⟩
  refine List.forall_mem_cons.mpr ⟨dt_20, ?_⟩
  refine List.forall_mem_cons.mpr ⟨dt_21, ?_⟩
  refine List.forall_mem_cons.mpr ⟨dt_22, ?_⟩
  refine List.forall_mem_cons.mpr ⟨dt_23, ?_⟩
  refine List.forall_mem_cons.mpr ⟨dt_24, ?_⟩
  refine List.forall_mem_cons.mpr ⟨dt_25, ?_⟩
  refine List.forall_mem_cons.mpr ⟨dt_26, ?_⟩
  refine List.forall_mem_cons.mpr ⟨dt_27, ?_⟩
  refine List.forall_mem_cons.mpr ⟨dt_28, ?_⟩
  refine List.forall_mem_cons.mpr ⟨dt_29, ?_⟩
  refine List.forall_mem_cons.mpr ⟨dt_30, ?_⟩
  refine List.forall_mem_cons.mpr ⟨dt_31, ?_⟩
  refine List.forall_mem_cons.mpr ⟨dt_32, ?_⟩
  refine List.forall_mem_cons.mpr ⟨dt_33, ?_⟩
  refine List.forall_mem_cons.mpr ⟨dt_34, ?_⟩
  refine List.forall_mem_cons.mpr ⟨dt_35, ?_⟩
  refine List.forall_mem_cons.mpr ⟨dt_36, ?_⟩
  refine List.forall_mem_cons.mpr ⟨dt_37, ?_⟩
  refine List.forall_mem_cons.mpr ⟨dt_38, ?_⟩
  refine List.forall_mem_cons.mpr ⟨dt_39, ?_⟩
  refine List.forall_mem_cons.mpr ⟨dt_40, ?_⟩
  refine List.forall_mem_cons.mpr ⟨dt_41, ?_⟩
  refine List.forall_mem_cons.mpr ⟨dt_42, ?_⟩
  refine List.forall_mem_cons.mpr ⟨dt_43, ?_⟩
  refine List.forall_mem_cons.mpr ⟨dt_44, ?_⟩
  refine List.forall_mem_cons.mpr ⟨dt_45, ?_⟩
  refine List.forall_mem_cons.mpr ⟨dt_46, ?_⟩
  refine List.forall_mem_cons.mpr ⟨dt_47, ?_⟩
  refine List.forall_mem_cons.mpr ⟨dt_48, ?_⟩
  refine List.forall_mem_cons.mpr ⟨dt_49, ?_⟩
  refine List.forall_mem_cons.mpr ⟨dt_50, ?_⟩
  refine List.forall_mem_cons.mpr ⟨dt_51, ?_⟩
  refine List.forall_mem_cons.mpr ⟨dt_52, ?_⟩
  refine List.forall_mem_cons.mpr ⟨dt_53, ?_⟩
  refine List.forall_mem_cons.mpr ⟨dt_54, ?_⟩
  refine List.forall_mem_cons.mpr ⟨dt_55, ?_⟩
  refine List.forall_mem_cons.mpr ⟨dt_56, ?_⟩
  refine List.forall_mem_cons.mpr ⟨dt_57, ?_⟩
  refine List.forall_mem_cons.mpr ⟨dt_58, ?_⟩
  refine List.forall_mem_cons.mpr ⟨dt_59, ?_⟩
  refine List.forall_mem_cons.mpr ⟨dt_60, ?_⟩
  refine List.forall_mem_cons.mpr ⟨dt_61, ?_⟩
  refine List.forall_mem_cons.mpr ⟨dt_62, ?_⟩
  refine List.forall_mem_cons.mpr ⟨dt_63, ?_⟩
  refine List.forall_mem_cons.mpr ⟨dt_64, ?_⟩
  refine List.forall_mem_cons.mpr ⟨dt_65, ?_⟩
  refine List.forall_mem_cons.mpr ⟨dt_66, ?_⟩
  refine List.forall_mem_cons.mpr ⟨dt_67, ?_⟩
  refine List.forall_mem_cons.mpr ⟨dt_68, ?_⟩
  refine List.forall_mem_cons.mpr ⟨dt_69, ?_⟩
  refine List.forall_mem_cons.mpr ⟨dt_70, ?_⟩
  refine List.forall_mem_cons.mpr ⟨dt_71, ?_⟩
  refine List.forall_mem_cons.mpr ⟨dt_72, ?_⟩
  refine List.forall_mem_cons.mpr ⟨dt_73, ?_⟩
  refine List.forall_mem_cons.mpr ⟨dt_74, ?_⟩
  refine List.forall_mem_cons.mpr ⟨dt_75, ?_⟩
  refine List.forall_mem_cons.mpr ⟨dt_76, ?_⟩
  refine List.forall_mem_cons.mpr ⟨dt_77, ?_⟩
  refine List.forall_mem_cons.mpr ⟨dt_78, ?_⟩
  refine List.forall_mem_cons.mpr ⟨dt_79, ?_⟩
  refine List.forall_mem_cons.mpr ⟨dt_80, ?_⟩
  refine List.forall_mem_cons.mpr ⟨dt_81, ?_⟩
  refine List.forall_mem_cons.mpr ⟨dt_82, ?_⟩
  refine List.forall_mem_cons.mpr ⟨dt_83, ?_⟩
  refine List.forall_mem_cons.mpr ⟨dt_84, ?_⟩
  refine List.forall_mem_cons.mpr ⟨dt_85, ?_⟩
  refine List.forall_mem_cons.mpr ⟨dt_86, ?_⟩
  refine List.forall_mem_cons.mpr ⟨dt_87, ?_⟩
  refine List.forall_mem_cons.mpr ⟨dt_88, ?_⟩
  refine List.forall_mem_cons.mpr ⟨dt_89, ?_⟩
  refine List.forall_mem_cons.mpr ⟨dt_90, ?_⟩
  refine List.forall_mem_cons.mpr ⟨dt_91, ?_⟩
  refine List.forall_mem_cons.mpr ⟨dt_92, ?_⟩
  refine List.forall_mem_cons.mpr ⟨dt_93, ?_⟩
  refine List.forall_mem_cons.mpr ⟨dt_94, ?_⟩
  refine List.forall_mem_cons.mpr ⟨dt_95, ?_⟩
  refine List.forall_mem_cons.mpr ⟨dt_96, ?_⟩
  refine List.forall_mem_cons.mpr ⟨dt_97, ?_⟩
  refine List.forall_mem_cons.mpr ⟨dt_98, ?_⟩
  refine List.forall_mem_cons.mpr ⟨dt_99, ?_⟩
  refine List.forall_mem_cons.mpr ⟨dt_100, ?_⟩
  refine List.forall_mem_cons.mpr ⟨dt_101, ?_⟩
  refine List.forall_mem_cons.mpr ⟨dt_102, ?_⟩
  refine List.forall_mem_cons.mpr ⟨dt_103, ?_⟩
  refine List.forall_mem_cons.mpr ⟨dt_104, ?_⟩
  refine List.forall_mem_cons.mpr ⟨dt_105, ?_⟩
  refine List.forall_mem_cons.mpr ⟨dt_106, ?_⟩
  refine List.forall_mem_cons.mpr ⟨dt_107, ?_⟩
  refine List.forall_mem_cons.mpr ⟨dt_108, ?_⟩
  refine List.forall_mem_cons.mpr ⟨dt_109, ?_⟩
  refine List.forall_mem_cons.mpr ⟨dt_110, ?_⟩
  refine List.forall_mem_cons.mpr ⟨dt_111, ?_⟩
  refine List.forall_mem_cons.mpr ⟨dt_112, ?_⟩
  refine List.forall_mem_cons.mpr ⟨dt_113, ?_⟩
  refine List.forall_mem_cons.mpr ⟨dt_114, ?_⟩
  refine List.forall_mem_cons.mpr ⟨dt_115, ?_⟩
  refine List.forall_mem_cons.mpr ⟨dt_116, ?_⟩
  refine List.forall_mem_cons.mpr ⟨dt_117, ?_⟩
  refine List.forall_mem_cons.mpr ⟨dt_118, ?_⟩
  refine List.forall_mem_cons.mpr ⟨dt_119, ?_⟩
  refine List.forall_mem_cons.mpr ⟨dt_120, ?_⟩
  refine List.forall_mem_cons.mpr ⟨dt_121, ?_⟩
  refine List.forall_mem_cons.mpr ⟨dt_122, ?_⟩
  refine List.forall_mem_cons.mpr ⟨dt_123, ?_⟩
  refine List.forall_mem_cons.mpr ⟨dt_124, ?_⟩
  refine List.forall_mem_cons.mpr ⟨dt_125, ?_⟩
  refine List.forall_mem_cons.mpr ⟨dt_126, ?_⟩
  refine List.forall_mem_cons.mpr ⟨dt_127, ?_⟩
  refine List.forall_mem_cons.mpr ⟨dt_128, ?_⟩
  refine List.forall_mem_cons.mpr ⟨dt_129, ?_⟩
  refine List.forall_mem_cons.mpr ⟨dt_130, ?_⟩
  refine List.forall_mem_cons.mpr ⟨dt_131, ?_⟩
  refine List.forall_mem_cons.mpr ⟨dt_132, ?_⟩
  refine List.forall_mem_cons.mpr ⟨dt_133, ?_⟩
  refine List.forall_mem_cons.mpr ⟨dt_134, ?_⟩
  refine List.forall_mem_cons.mpr ⟨dt_135, ?_⟩
  refine List.forall_mem_cons.mpr ⟨dt_136, ?_⟩
  refine List.forall_mem_cons.mpr ⟨dt_137, ?_⟩
  refine List.forall_mem_cons.mpr ⟨dt_138, ?_⟩
  refine List.forall_mem_cons.mpr ⟨dt_139, ?_⟩
  refine List.forall_mem_cons.mpr ⟨dt_140, ?_⟩
  refine List.forall_mem_cons.mpr ⟨dt_141, ?_⟩
  refine List.forall_mem_cons.mpr ⟨dt_142, ?_⟩
  refine List.forall_mem_cons.mpr ⟨dt_143, ?_⟩
  refine List.forall_mem_cons.mpr ⟨dt_144, ?_⟩
  refine List.forall_mem_cons.mpr ⟨dt_145, ?_⟩
  exact fun _ h => absurd h List.not_mem_nil
theorem dm_M {mi pc : Nat} {en : mx_E} (h : mx_M mi pc = some en) : dm_E en := by
  unfold mx_M at h
  split at h
  · rename_i t ht
    exact dm_tabs t (List.mem_of_getElem? ht) _ (mx_find_mem t pc en h)
  · cases h
theorem dm_exec : ∀ (n mi pc : Nat) (lv : mx_L) (st : List Value) (h : mx_H) (r : Option Value × mx_H), mx_exec mx_M n mi pc lv st h = some r → ∀ a, a < h.1 → mx_get h a = none → mx_get r.2 a = none := by
  intro n
  induction n with
  | zero => intro mi pc lv st h r e; simp [mx_exec] at e
  | succ n ih =>
    intro mi pc lv st h r e a h1 h2
    rw [mx_exec] at e
    cases hE : mx_M mi pc with
    | none => rw [hE] at e; cases e
    | some x =>
      rw [hE] at e
      rcases x with f | c | ty
      · cases hq : f lv st h with
        | none => simp only [hq] at e; cases e
        | some q =>
          simp only [hq] at e
          obtain ⟨a1, -, -⟩ := mx_M_mono mi pc f hE lv st h q hq
          have hd : dm_F f := dm_M hE
          exact ih _ _ _ _ _ _ e a (by omega) (hd lv st h q hq a h1 h2)
      · by_cases hk : mx_cok c st h = true
        · simp only [hk, if_true] at e
          cases hq : mx_exec mx_M n c.1 0 (lv_args 0 (st.take c.2.1).reverse) [] h with
          | none => simp only [hq] at e; cases e
          | some q =>
            simp only [hq] at e
            obtain ⟨a1, -, -⟩ := mx_exec_mono mx_M_mono _ _ _ _ _ _ _ hq
            exact ih _ _ _ _ _ _ e a (by omega) (ih _ _ _ _ _ _ hq a h1 h2)
        · simp only [hk] at e
          cases e
      · simp only at e
        unfold mx_ret at e
        split at e
        · cases e; exact h2
        · split at e
          · cases e; exact h2
          · cases e
        · cases e
