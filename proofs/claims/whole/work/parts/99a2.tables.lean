/-! NO ENTRY FILLS AN EMPTY ADDRESS: the tables (written by wip/gen99a.py) -/
theorem dt_37 : ∀ q ∈ mt_37, dm_E q.2 := by
  refine List.forall_mem_cons.mpr ⟨dm_aload _ _, ?_⟩
  refine List.forall_mem_cons.mpr ⟨dm_getf _ _ _, ?_⟩
  refine List.forall_mem_cons.mpr ⟨trivial, ?_⟩
  refine List.forall_mem_cons.mpr ⟨trivial, ?_⟩
  exact fun _ h => absurd h List.not_mem_nil
theorem dt_38 : ∀ q ∈ mt_38, dm_E q.2 := by
  refine List.forall_mem_cons.mpr ⟨dm_aload _ _, ?_⟩
  refine List.forall_mem_cons.mpr ⟨dm_getf _ _ _, ?_⟩
  refine List.forall_mem_cons.mpr ⟨dm_iload _ _, ?_⟩
  refine List.forall_mem_cons.mpr ⟨trivial, ?_⟩
  refine List.forall_mem_cons.mpr ⟨trivial, ?_⟩
  exact fun _ h => absurd h List.not_mem_nil
theorem dt_39 : ∀ q ∈ mt_39, dm_E q.2 := by
  refine List.forall_mem_cons.mpr ⟨dm_aload _ _, ?_⟩
  refine List.forall_mem_cons.mpr ⟨dm_getf _ _ _, ?_⟩
  refine List.forall_mem_cons.mpr ⟨dm_iload _ _, ?_⟩
  refine List.forall_mem_cons.mpr ⟨trivial, ?_⟩
  refine List.forall_mem_cons.mpr ⟨trivial, ?_⟩
  exact fun _ h => absurd h List.not_mem_nil
theorem dt_40 : ∀ q ∈ mt_40, dm_E q.2 := by
  refine List.forall_mem_cons.mpr ⟨dm_aload _ _, ?_⟩
  refine List.forall_mem_cons.mpr ⟨dm_obj _, ?_⟩
  refine List.forall_mem_cons.mpr ⟨dm_aload _ _, ?_⟩
  refine List.forall_mem_cons.mpr ⟨dm_new _ _ _, ?_⟩
  refine List.forall_mem_cons.mpr ⟨dm_dup _, ?_⟩
  refine List.forall_mem_cons.mpr ⟨trivial, ?_⟩
  refine List.forall_mem_cons.mpr ⟨dm_putf _ _ _ _, ?_⟩
  refine List.forall_mem_cons.mpr ⟨dm_aload _ _, ?_⟩
  refine List.forall_mem_cons.mpr ⟨dm_aload _ _, ?_⟩
  refine List.forall_mem_cons.mpr ⟨dm_putf _ _ _ _, ?_⟩
  refine List.forall_mem_cons.mpr ⟨dm_aload _ _, ?_⟩
  refine List.forall_mem_cons.mpr ⟨dm_getf _ _ _, ?_⟩
  refine List.forall_mem_cons.mpr ⟨dm_const _ _, ?_⟩
  refine List.forall_mem_cons.mpr ⟨dm_const _ _, ?_⟩
  refine List.forall_mem_cons.mpr ⟨trivial, ?_⟩
  refine List.forall_mem_cons.mpr ⟨trivial, ?_⟩
  exact fun _ h => absurd h List.not_mem_nil
theorem dt_41 : ∀ q ∈ mt_41, dm_E q.2 := by
  refine List.forall_mem_cons.mpr ⟨dm_aload _ _, ?_⟩
  refine List.forall_mem_cons.mpr ⟨dm_const _ _, ?_⟩
  refine List.forall_mem_cons.mpr ⟨dm_putf _ _ _ _, ?_⟩
  refine List.forall_mem_cons.mpr ⟨dm_aload _ _, ?_⟩
  refine List.forall_mem_cons.mpr ⟨dm_const _ _, ?_⟩
  refine List.forall_mem_cons.mpr ⟨dm_putf _ _ _ _, ?_⟩
  refine List.forall_mem_cons.mpr ⟨dm_aload _ _, ?_⟩
  refine List.forall_mem_cons.mpr ⟨dm_iload _ _, ?_⟩
  refine List.forall_mem_cons.mpr ⟨dm_putf _ _ _ _, ?_⟩
  refine List.forall_mem_cons.mpr ⟨dm_aload _ _, ?_⟩
  refine List.forall_mem_cons.mpr ⟨dm_const _ _, ?_⟩
  refine List.forall_mem_cons.mpr ⟨dm_putf _ _ _ _, ?_⟩
  refine List.forall_mem_cons.mpr ⟨dm_iload _ _, ?_⟩
  refine List.forall_mem_cons.mpr ⟨dm_const _ _, ?_⟩
  refine List.forall_mem_cons.mpr ⟨dm_bin _ _, ?_⟩
  refine List.forall_mem_cons.mpr ⟨dm_aload _ _, ?_⟩
  refine List.forall_mem_cons.mpr ⟨trivial, ?_⟩
  refine List.forall_mem_cons.mpr ⟨dm_const _ _, ?_⟩
  refine List.forall_mem_cons.mpr ⟨dm_bin _ _, ?_⟩
  refine List.forall_mem_cons.mpr ⟨dm_bin _ _, ?_⟩
  refine List.forall_mem_cons.mpr ⟨dm_istore _ _, ?_⟩
  refine List.forall_mem_cons.mpr ⟨dm_const _ _, ?_⟩
  refine List.forall_mem_cons.mpr ⟨dm_istore _ _, ?_⟩
  refine List.forall_mem_cons.mpr ⟨dm_iload _ _, ?_⟩
  refine List.forall_mem_cons.mpr ⟨dm_iload _ _, ?_⟩
  refine List.forall_mem_cons.mpr ⟨dm_icmp _ _ _, ?_⟩
  refine List.forall_mem_cons.mpr ⟨dm_aload _ _, ?_⟩
  refine List.forall_mem_cons.mpr ⟨dm_getf _ _ _, ?_⟩
  refine List.forall_mem_cons.mpr ⟨dm_const _ _, ?_⟩
  refine List.forall_mem_cons.mpr ⟨dm_icmp _ _ _, ?_⟩
  refine List.forall_mem_cons.mpr ⟨dm_aload _ _, ?_⟩
  refine List.forall_mem_cons.mpr ⟨dm_aload _ _, ?_⟩
  refine List.forall_mem_cons.mpr ⟨dm_getf _ _ _, ?_⟩
  refine List.forall_mem_cons.mpr ⟨trivial, ?_⟩
  refine List.forall_mem_cons.mpr ⟨dm_istore _ _, ?_⟩
  refine List.forall_mem_cons.mpr ⟨dm_aload _ _, ?_⟩
  refine List.forall_mem_cons.mpr ⟨dm_aload _ _, ?_⟩
  refine List.forall_mem_cons.mpr ⟨dm_getf _ _ _, ?_⟩
  refine List.forall_mem_cons.mpr ⟨trivial, ?_⟩
  refine List.forall_mem_cons.mpr ⟨dm_istore _ _, ?_⟩
  refine List.forall_mem_cons.mpr ⟨dm_aload _ _, ?_⟩
  refine List.forall_mem_cons.mpr ⟨dm_dup _, ?_⟩
  refine List.forall_mem_cons.mpr ⟨dm_getf _ _ _, ?_⟩
  refine List.forall_mem_cons.mpr ⟨dm_const _ _, ?_⟩
  refine List.forall_mem_cons.mpr ⟨dm_bin _ _, ?_⟩
  refine List.forall_mem_cons.mpr ⟨dm_putf _ _ _ _, ?_⟩
  refine List.forall_mem_cons.mpr ⟨dm_iload _ _, ?_⟩
  refine List.forall_mem_cons.mpr ⟨dm_const _ _, ?_⟩
  refine List.forall_mem_cons.mpr ⟨dm_icmp _ _ _, ?_⟩
  refine List.forall_mem_cons.mpr ⟨dm_aload _ _, ?_⟩
  refine List.forall_mem_cons.mpr ⟨dm_iload _ _, ?_⟩
  refine List.forall_mem_cons.mpr ⟨dm_iload _ _, ?_⟩
  refine List.forall_mem_cons.mpr ⟨trivial, ?_⟩
  refine List.forall_mem_cons.mpr ⟨dm_goto _, ?_⟩
  refine List.forall_mem_cons.mpr ⟨dm_iload _ _, ?_⟩
  refine List.forall_mem_cons.mpr ⟨dm_const _ _, ?_⟩
  refine List.forall_mem_cons.mpr ⟨dm_icmp _ _ _, ?_⟩
  refine List.forall_mem_cons.mpr ⟨dm_aload _ _, ?_⟩
  refine List.forall_mem_cons.mpr ⟨dm_iload _ _, ?_⟩
  refine List.forall_mem_cons.mpr ⟨dm_iload _ _, ?_⟩
  refine List.forall_mem_cons.mpr ⟨trivial, ?_⟩
  refine List.forall_mem_cons.mpr ⟨dm_goto _, ?_⟩
  refine List.forall_mem_cons.mpr ⟨dm_aload _ _, ?_⟩
  refine List.forall_mem_cons.mpr ⟨dm_iload _ _, ?_⟩
  refine List.forall_mem_cons.mpr ⟨trivial, ?_⟩
  refine List.forall_mem_cons.mpr ⟨dm_if _ _ _, ?_⟩
  refine List.forall_mem_cons.mpr ⟨dm_aload _ _, ?_⟩
  refine List.forall_mem_cons.mpr ⟨dm_iload _ _, ?_⟩
  refine List.forall_mem_cons.mpr ⟨dm_putf _ _ _ _, ?_⟩
  refine List.forall_mem_cons.mpr ⟨dm_iinc _ _ _, ?_⟩
  refine List.forall_mem_cons.mpr ⟨dm_goto _, ?_⟩
  refine List.forall_mem_cons.mpr ⟨dm_aload _ _, ?_⟩
  refine List.forall_mem_cons.mpr ⟨dm_getf _ _ _, ?_⟩
  refine List.forall_mem_cons.mpr ⟨trivial, ?_⟩
  exact fun _ h => absurd h List.not_mem_nil
theorem dt_42 : ∀ q ∈ mt_42, dm_E q.2 := by
  refine List.forall_mem_cons.mpr ⟨dm_aload _ _, ?_⟩
  refine List.forall_mem_cons.mpr ⟨dm_getf _ _ _, ?_⟩
  refine List.forall_mem_cons.mpr ⟨dm_istore _ _, ?_⟩
  refine List.forall_mem_cons.mpr ⟨dm_iload _ _, ?_⟩
  refine List.forall_mem_cons.mpr ⟨dm_table _ _ _ _, ?_⟩
  refine List.forall_mem_cons.mpr ⟨dm_aload _ _, ?_⟩
  refine List.forall_mem_cons.mpr ⟨dm_iload _ _, ?_⟩
  refine List.forall_mem_cons.mpr ⟨dm_putf _ _ _ _, ?_⟩
  refine List.forall_mem_cons.mpr ⟨dm_aload _ _, ?_⟩
  refine List.forall_mem_cons.mpr ⟨dm_iload _ _, ?_⟩
  refine List.forall_mem_cons.mpr ⟨dm_putf _ _ _ _, ?_⟩
  refine List.forall_mem_cons.mpr ⟨dm_goto _, ?_⟩
  refine List.forall_mem_cons.mpr ⟨dm_aload _ _, ?_⟩
  refine List.forall_mem_cons.mpr ⟨dm_aload _ _, ?_⟩
  refine List.forall_mem_cons.mpr ⟨dm_getf _ _ _, ?_⟩
  refine List.forall_mem_cons.mpr ⟨dm_iload _ _, ?_⟩
  refine List.forall_mem_cons.mpr ⟨trivial, ?_⟩
  refine List.forall_mem_cons.mpr ⟨dm_putf _ _ _ _, ?_⟩
  refine List.forall_mem_cons.mpr ⟨dm_aload _ _, ?_⟩
  refine List.forall_mem_cons.mpr ⟨dm_iload _ _, ?_⟩
  refine List.forall_mem_cons.mpr ⟨dm_putf _ _ _ _, ?_⟩
  refine List.forall_mem_cons.mpr ⟨dm_goto _, ?_⟩
  refine List.forall_mem_cons.mpr ⟨dm_aload _ _, ?_⟩
  refine List.forall_mem_cons.mpr ⟨dm_aload _ _, ?_⟩
  refine List.forall_mem_cons.mpr ⟨dm_getf _ _ _, ?_⟩
  refine List.forall_mem_cons.mpr ⟨dm_iload _ _, ?_⟩
  refine List.forall_mem_cons.mpr ⟨trivial, ?_⟩
  refine List.forall_mem_cons.mpr ⟨dm_putf _ _ _ _, ?_⟩
  refine List.forall_mem_cons.mpr ⟨dm_aload _ _, ?_⟩
  refine List.forall_mem_cons.mpr ⟨dm_iload _ _, ?_⟩
  refine List.forall_mem_cons.mpr ⟨dm_putf _ _ _ _, ?_⟩
  refine List.forall_mem_cons.mpr ⟨dm_goto _, ?_⟩
  refine List.forall_mem_cons.mpr ⟨dm_aload _ _, ?_⟩
  refine List.forall_mem_cons.mpr ⟨dm_getf _ _ _, ?_⟩
  refine List.forall_mem_cons.mpr ⟨dm_iload _ _, ?_⟩
  refine List.forall_mem_cons.mpr ⟨dm_aload _ _, ?_⟩
  refine List.forall_mem_cons.mpr ⟨dm_getf _ _ _, ?_⟩
  refine List.forall_mem_cons.mpr ⟨trivial, ?_⟩
  refine List.forall_mem_cons.mpr ⟨dm_goto _, ?_⟩
  refine List.forall_mem_cons.mpr ⟨dm_aload _ _, ?_⟩
  refine List.forall_mem_cons.mpr ⟨dm_getf _ _ _, ?_⟩
  refine List.forall_mem_cons.mpr ⟨dm_iload _ _, ?_⟩
  refine List.forall_mem_cons.mpr ⟨dm_aload _ _, ?_⟩
  refine List.forall_mem_cons.mpr ⟨dm_getf _ _ _, ?_⟩
  refine List.forall_mem_cons.mpr ⟨trivial, ?_⟩
  refine List.forall_mem_cons.mpr ⟨dm_goto _, ?_⟩
  refine List.forall_mem_cons.mpr ⟨dm_aload _ _, ?_⟩
  refine List.forall_mem_cons.mpr ⟨dm_aload _ _, ?_⟩
  refine List.forall_mem_cons.mpr ⟨dm_getf _ _ _, ?_⟩
  refine List.forall_mem_cons.mpr ⟨dm_putf _ _ _ _, ?_⟩
  refine List.forall_mem_cons.mpr ⟨dm_aload _ _, ?_⟩
  refine List.forall_mem_cons.mpr ⟨dm_iload _ _, ?_⟩
  refine List.forall_mem_cons.mpr ⟨dm_putf _ _ _ _, ?_⟩
  refine List.forall_mem_cons.mpr ⟨dm_goto _, ?_⟩
  refine List.forall_mem_cons.mpr ⟨trivial, ?_⟩
  exact fun _ h => absurd h List.not_mem_nil
theorem dt_43 : ∀ q ∈ mt_43, dm_E q.2 := by
  refine List.forall_mem_cons.mpr ⟨dm_iload _ _, ?_⟩
  refine List.forall_mem_cons.mpr ⟨dm_table _ _ _ _, ?_⟩
  refine List.forall_mem_cons.mpr ⟨dm_const _ _, ?_⟩
  refine List.forall_mem_cons.mpr ⟨trivial, ?_⟩
  refine List.forall_mem_cons.mpr ⟨dm_aload _ _, ?_⟩
  refine List.forall_mem_cons.mpr ⟨dm_getf _ _ _, ?_⟩
  refine List.forall_mem_cons.mpr ⟨dm_if _ _ _, ?_⟩
  refine List.forall_mem_cons.mpr ⟨dm_const _ _, ?_⟩
  refine List.forall_mem_cons.mpr ⟨dm_goto _, ?_⟩
  refine List.forall_mem_cons.mpr ⟨dm_const _ _, ?_⟩
  refine List.forall_mem_cons.mpr ⟨trivial, ?_⟩
  refine List.forall_mem_cons.mpr ⟨dm_aload _ _, ?_⟩
  refine List.forall_mem_cons.mpr ⟨dm_getf _ _ _, ?_⟩
  refine List.forall_mem_cons.mpr ⟨dm_if _ _ _, ?_⟩
  refine List.forall_mem_cons.mpr ⟨dm_const _ _, ?_⟩
  refine List.forall_mem_cons.mpr ⟨dm_goto _, ?_⟩
  refine List.forall_mem_cons.mpr ⟨dm_const _ _, ?_⟩
  refine List.forall_mem_cons.mpr ⟨trivial, ?_⟩
  refine List.forall_mem_cons.mpr ⟨dm_iload _ _, ?_⟩
  refine List.forall_mem_cons.mpr ⟨dm_const _ _, ?_⟩
  refine List.forall_mem_cons.mpr ⟨dm_bin _ _, ?_⟩
  refine List.forall_mem_cons.mpr ⟨dm_aload _ _, ?_⟩
  refine List.forall_mem_cons.mpr ⟨dm_getf _ _ _, ?_⟩
  refine List.forall_mem_cons.mpr ⟨dm_aload _ _, ?_⟩
  refine List.forall_mem_cons.mpr ⟨dm_getf _ _ _, ?_⟩
  refine List.forall_mem_cons.mpr ⟨trivial, ?_⟩
  refine List.forall_mem_cons.mpr ⟨trivial, ?_⟩
  exact fun _ h => absurd h List.not_mem_nil
theorem dt_44 : ∀ q ∈ mt_44, dm_E q.2 := by
  refine List.forall_mem_cons.mpr ⟨dm_iload _ _, ?_⟩
  refine List.forall_mem_cons.mpr ⟨dm_table _ _ _ _, ?_⟩
  refine List.forall_mem_cons.mpr ⟨dm_aload _ _, ?_⟩
  refine List.forall_mem_cons.mpr ⟨dm_getf _ _ _, ?_⟩
  refine List.forall_mem_cons.mpr ⟨dm_iload _ _, ?_⟩
  refine List.forall_mem_cons.mpr ⟨dm_aload _ _, ?_⟩
  refine List.forall_mem_cons.mpr ⟨dm_getf _ _ _, ?_⟩
  refine List.forall_mem_cons.mpr ⟨trivial, ?_⟩
  refine List.forall_mem_cons.mpr ⟨dm_goto _, ?_⟩
  refine List.forall_mem_cons.mpr ⟨dm_aload _ _, ?_⟩
  refine List.forall_mem_cons.mpr ⟨trivial, ?_⟩
  refine List.forall_mem_cons.mpr ⟨dm_goto _, ?_⟩
  refine List.forall_mem_cons.mpr ⟨dm_aload _ _, ?_⟩
  refine List.forall_mem_cons.mpr ⟨trivial, ?_⟩
  refine List.forall_mem_cons.mpr ⟨dm_goto _, ?_⟩
  refine List.forall_mem_cons.mpr ⟨dm_aload _ _, ?_⟩
  refine List.forall_mem_cons.mpr ⟨dm_aload _ _, ?_⟩
  refine List.forall_mem_cons.mpr ⟨dm_getf _ _ _, ?_⟩
  refine List.forall_mem_cons.mpr ⟨dm_ineg _, ?_⟩
  refine List.forall_mem_cons.mpr ⟨dm_putf _ _ _ _, ?_⟩
  refine List.forall_mem_cons.mpr ⟨dm_goto _, ?_⟩
  refine List.forall_mem_cons.mpr ⟨dm_aload _ _, ?_⟩
  refine List.forall_mem_cons.mpr ⟨dm_aload _ _, ?_⟩
  refine List.forall_mem_cons.mpr ⟨dm_getf _ _ _, ?_⟩
  refine List.forall_mem_cons.mpr ⟨dm_const _ _, ?_⟩
  refine List.forall_mem_cons.mpr ⟨dm_bin _ _, ?_⟩
  refine List.forall_mem_cons.mpr ⟨dm_putf _ _ _ _, ?_⟩
  refine List.forall_mem_cons.mpr ⟨dm_goto _, ?_⟩
  refine List.forall_mem_cons.mpr ⟨dm_aload _ _, ?_⟩
  refine List.forall_mem_cons.mpr ⟨dm_iload _ _, ?_⟩
  refine List.forall_mem_cons.mpr ⟨trivial, ?_⟩
  refine List.forall_mem_cons.mpr ⟨dm_goto _, ?_⟩
  refine List.forall_mem_cons.mpr ⟨dm_aload _ _, ?_⟩
  refine List.forall_mem_cons.mpr ⟨dm_iload _ _, ?_⟩
  refine List.forall_mem_cons.mpr ⟨dm_aload _ _, ?_⟩
  refine List.forall_mem_cons.mpr ⟨dm_getf _ _ _, ?_⟩
  refine List.forall_mem_cons.mpr ⟨dm_aload _ _, ?_⟩
  refine List.forall_mem_cons.mpr ⟨dm_getf _ _ _, ?_⟩
  refine List.forall_mem_cons.mpr ⟨trivial, ?_⟩
  refine List.forall_mem_cons.mpr ⟨dm_putf _ _ _ _, ?_⟩
  refine List.forall_mem_cons.mpr ⟨dm_goto _, ?_⟩
  refine List.forall_mem_cons.mpr ⟨dm_aload _ _, ?_⟩
  refine List.forall_mem_cons.mpr ⟨dm_iload _ _, ?_⟩
  refine List.forall_mem_cons.mpr ⟨trivial, ?_⟩
  refine List.forall_mem_cons.mpr ⟨dm_goto _, ?_⟩
  refine List.forall_mem_cons.mpr ⟨dm_aload _ _, ?_⟩
  refine List.forall_mem_cons.mpr ⟨trivial, ?_⟩
  refine List.forall_mem_cons.mpr ⟨dm_goto _, ?_⟩
  refine List.forall_mem_cons.mpr ⟨dm_aload _ _, ?_⟩
  refine List.forall_mem_cons.mpr ⟨dm_aload _ _, ?_⟩
  refine List.forall_mem_cons.mpr ⟨dm_getf _ _ _, ?_⟩
  refine List.forall_mem_cons.mpr ⟨dm_iload _ _, ?_⟩
  refine List.forall_mem_cons.mpr ⟨trivial, ?_⟩
  refine List.forall_mem_cons.mpr ⟨trivial, ?_⟩
  refine List.forall_mem_cons.mpr ⟨dm_goto _, ?_⟩
  refine List.forall_mem_cons.mpr ⟨dm_aload _ _, ?_⟩
  refine List.forall_mem_cons.mpr ⟨trivial, ?_⟩
  refine List.forall_mem_cons.mpr ⟨dm_goto _, ?_⟩
  refine List.forall_mem_cons.mpr ⟨dm_aload _ _, ?_⟩
  refine List.forall_mem_cons.mpr ⟨dm_aload _ _, ?_⟩
  refine List.forall_mem_cons.mpr ⟨dm_getf _ _ _, ?_⟩
  refine List.forall_mem_cons.mpr ⟨dm_putf _ _ _ _, ?_⟩
  refine List.forall_mem_cons.mpr ⟨dm_aload _ _, ?_⟩
  refine List.forall_mem_cons.mpr ⟨dm_const _ _, ?_⟩
  refine List.forall_mem_cons.mpr ⟨dm_putf _ _ _ _, ?_⟩
  refine List.forall_mem_cons.mpr ⟨dm_goto _, ?_⟩
  refine List.forall_mem_cons.mpr ⟨dm_aload _ _, ?_⟩
  refine List.forall_mem_cons.mpr ⟨dm_const _ _, ?_⟩
  refine List.forall_mem_cons.mpr ⟨dm_putf _ _ _ _, ?_⟩
  refine List.forall_mem_cons.mpr ⟨dm_goto _, ?_⟩
  refine List.forall_mem_cons.mpr ⟨trivial, ?_⟩
  exact fun _ h => absurd h List.not_mem_nil
theorem dt_45 : ∀ q ∈ mt_45, dm_E q.2 := by
  refine List.forall_mem_cons.mpr ⟨dm_lload _ _, ?_⟩
  refine List.forall_mem_cons.mpr ⟨trivial, ?_⟩
  refine List.forall_mem_cons.mpr ⟨dm_istore _ _, ?_⟩
  refine List.forall_mem_cons.mpr ⟨dm_iload _ _, ?_⟩
  refine List.forall_mem_cons.mpr ⟨dm_if _ _ _, ?_⟩
  refine List.forall_mem_cons.mpr ⟨dm_aload _ _, ?_⟩
  refine List.forall_mem_cons.mpr ⟨dm_const _ _, ?_⟩
  refine List.forall_mem_cons.mpr ⟨dm_putf _ _ _ _, ?_⟩
  refine List.forall_mem_cons.mpr ⟨dm_iload _ _, ?_⟩
  refine List.forall_mem_cons.mpr ⟨trivial, ?_⟩
  exact fun _ h => absurd h List.not_mem_nil
theorem dt_46 : ∀ q ∈ mt_46, dm_E q.2 := by
  refine List.forall_mem_cons.mpr ⟨dm_aload _ _, ?_⟩
  refine List.forall_mem_cons.mpr ⟨dm_aload _ _, ?_⟩
  refine List.forall_mem_cons.mpr ⟨dm_getf _ _ _, ?_⟩
  refine List.forall_mem_cons.mpr ⟨dm_i2l _, ?_⟩
  refine List.forall_mem_cons.mpr ⟨trivial, ?_⟩
  refine List.forall_mem_cons.mpr ⟨dm_if _ _ _, ?_⟩
  refine List.forall_mem_cons.mpr ⟨dm_aload _ _, ?_⟩
  refine List.forall_mem_cons.mpr ⟨dm_aload _ _, ?_⟩
  refine List.forall_mem_cons.mpr ⟨dm_getf _ _ _, ?_⟩
  refine List.forall_mem_cons.mpr ⟨dm_aload _ _, ?_⟩
  refine List.forall_mem_cons.mpr ⟨dm_getf _ _ _, ?_⟩
  refine List.forall_mem_cons.mpr ⟨trivial, ?_⟩
  refine List.forall_mem_cons.mpr ⟨dm_putf _ _ _ _, ?_⟩
  refine List.forall_mem_cons.mpr ⟨trivial, ?_⟩
  exact fun _ h => absurd h List.not_mem_nil
theorem dt_47 : ∀ q ∈ mt_47, dm_E q.2 := by
  refine List.forall_mem_cons.mpr ⟨dm_aload _ _, ?_⟩
  refine List.forall_mem_cons.mpr ⟨dm_aload _ _, ?_⟩
  refine List.forall_mem_cons.mpr ⟨dm_getf _ _ _, ?_⟩
  refine List.forall_mem_cons.mpr ⟨dm_i2l _, ?_⟩
  refine List.forall_mem_cons.mpr ⟨trivial, ?_⟩
  refine List.forall_mem_cons.mpr ⟨dm_if _ _ _, ?_⟩
  refine List.forall_mem_cons.mpr ⟨dm_aload _ _, ?_⟩
  refine List.forall_mem_cons.mpr ⟨dm_getf _ _ _, ?_⟩
  refine List.forall_mem_cons.mpr ⟨dm_aload _ _, ?_⟩
  refine List.forall_mem_cons.mpr ⟨dm_getf _ _ _, ?_⟩
  refine List.forall_mem_cons.mpr ⟨dm_aload _ _, ?_⟩
  refine List.forall_mem_cons.mpr ⟨dm_getf _ _ _, ?_⟩
  refine List.forall_mem_cons.mpr ⟨trivial, ?_⟩
  refine List.forall_mem_cons.mpr ⟨trivial, ?_⟩
  exact fun _ h => absurd h List.not_mem_nil
theorem dt_48 : ∀ q ∈ mt_48, dm_E q.2 := by
  refine List.forall_mem_cons.mpr ⟨dm_aload _ _, ?_⟩
  refine List.forall_mem_cons.mpr ⟨dm_getf _ _ _, ?_⟩
  refine List.forall_mem_cons.mpr ⟨dm_if _ _ _, ?_⟩
  refine List.forall_mem_cons.mpr ⟨dm_iload _ _, ?_⟩
  refine List.forall_mem_cons.mpr ⟨trivial, ?_⟩
  refine List.forall_mem_cons.mpr ⟨dm_if _ _ _, ?_⟩
  refine List.forall_mem_cons.mpr ⟨dm_aload _ _, ?_⟩
  refine List.forall_mem_cons.mpr ⟨dm_const _ _, ?_⟩
  refine List.forall_mem_cons.mpr ⟨dm_putf _ _ _ _, ?_⟩
  refine List.forall_mem_cons.mpr ⟨dm_goto _, ?_⟩
  refine List.forall_mem_cons.mpr ⟨dm_aload _ _, ?_⟩
  refine List.forall_mem_cons.mpr ⟨dm_iload _ _, ?_⟩
  refine List.forall_mem_cons.mpr ⟨dm_aload _ _, ?_⟩
  refine List.forall_mem_cons.mpr ⟨dm_getf _ _ _, ?_⟩
  refine List.forall_mem_cons.mpr ⟨dm_aload _ _, ?_⟩
  refine List.forall_mem_cons.mpr ⟨dm_getf _ _ _, ?_⟩
  refine List.forall_mem_cons.mpr ⟨trivial, ?_⟩
  refine List.forall_mem_cons.mpr ⟨dm_putf _ _ _ _, ?_⟩
  refine List.forall_mem_cons.mpr ⟨trivial, ?_⟩
  exact fun _ h => absurd h List.not_mem_nil
theorem dt_49 : ∀ q ∈ mt_49, dm_E q.2 := by
  refine List.forall_mem_cons.mpr ⟨dm_aload _ _, ?_⟩
  refine List.forall_mem_cons.mpr ⟨dm_getf _ _ _, ?_⟩
  refine List.forall_mem_cons.mpr ⟨dm_istore _ _, ?_⟩
  refine List.forall_mem_cons.mpr ⟨dm_aload _ _, ?_⟩
  refine List.forall_mem_cons.mpr ⟨dm_iload _ _, ?_⟩
  refine List.forall_mem_cons.mpr ⟨dm_aload _ _, ?_⟩
  refine List.forall_mem_cons.mpr ⟨dm_getf _ _ _, ?_⟩
  refine List.forall_mem_cons.mpr ⟨dm_iload _ _, ?_⟩
  refine List.forall_mem_cons.mpr ⟨trivial, ?_⟩
  refine List.forall_mem_cons.mpr ⟨dm_putf _ _ _ _, ?_⟩
  refine List.forall_mem_cons.mpr ⟨dm_aload _ _, ?_⟩
  refine List.forall_mem_cons.mpr ⟨dm_iload _ _, ?_⟩
  refine List.forall_mem_cons.mpr ⟨dm_putf _ _ _ _, ?_⟩
  refine List.forall_mem_cons.mpr ⟨trivial, ?_⟩
  exact fun _ h => absurd h List.not_mem_nil
theorem dt_50 : ∀ q ∈ mt_50, dm_E q.2 := by
  refine List.forall_mem_cons.mpr ⟨dm_aload _ _, ?_⟩
  refine List.forall_mem_cons.mpr ⟨dm_getf _ _ _, ?_⟩
  refine List.forall_mem_cons.mpr ⟨dm_i2l _, ?_⟩
  refine List.forall_mem_cons.mpr ⟨dm_aload _ _, ?_⟩
  refine List.forall_mem_cons.mpr ⟨dm_getf _ _ _, ?_⟩
  refine List.forall_mem_cons.mpr ⟨dm_const _ _, ?_⟩
  refine List.forall_mem_cons.mpr ⟨dm_bin _ _, ?_⟩
  refine List.forall_mem_cons.mpr ⟨dm_i2l _, ?_⟩
  refine List.forall_mem_cons.mpr ⟨dm_ladd _, ?_⟩
  refine List.forall_mem_cons.mpr ⟨trivial, ?_⟩
  exact fun _ h => absurd h List.not_mem_nil
theorem dt_51 : ∀ q ∈ mt_51, dm_E q.2 := by
  refine List.forall_mem_cons.mpr ⟨dm_aload _ _, ?_⟩
  refine List.forall_mem_cons.mpr ⟨dm_aload _ _, ?_⟩
  refine List.forall_mem_cons.mpr ⟨trivial, ?_⟩
  refine List.forall_mem_cons.mpr ⟨trivial, ?_⟩
  refine List.forall_mem_cons.mpr ⟨dm_if _ _ _, ?_⟩
  refine List.forall_mem_cons.mpr ⟨dm_aload _ _, ?_⟩
  refine List.forall_mem_cons.mpr ⟨dm_getf _ _ _, ?_⟩
  refine List.forall_mem_cons.mpr ⟨dm_aload _ _, ?_⟩
  refine List.forall_mem_cons.mpr ⟨trivial, ?_⟩
  refine List.forall_mem_cons.mpr ⟨dm_l2i _, ?_⟩
  refine List.forall_mem_cons.mpr ⟨trivial, ?_⟩
  refine List.forall_mem_cons.mpr ⟨dm_istore _ _, ?_⟩
  refine List.forall_mem_cons.mpr ⟨dm_aload _ _, ?_⟩
  refine List.forall_mem_cons.mpr ⟨dm_iload _ _, ?_⟩
  refine List.forall_mem_cons.mpr ⟨dm_const _ _, ?_⟩
  refine List.forall_mem_cons.mpr ⟨dm_aload _ _, ?_⟩
  refine List.forall_mem_cons.mpr ⟨dm_getf _ _ _, ?_⟩
  refine List.forall_mem_cons.mpr ⟨dm_const _ _, ?_⟩
  refine List.forall_mem_cons.mpr ⟨dm_bin _ _, ?_⟩
  refine List.forall_mem_cons.mpr ⟨dm_bin _ _, ?_⟩
  refine List.forall_mem_cons.mpr ⟨dm_bin _ _, ?_⟩
  refine List.forall_mem_cons.mpr ⟨dm_const _ _, ?_⟩
  refine List.forall_mem_cons.mpr ⟨dm_bin _ _, ?_⟩
  refine List.forall_mem_cons.mpr ⟨dm_putf _ _ _ _, ?_⟩
  refine List.forall_mem_cons.mpr ⟨trivial, ?_⟩
  exact fun _ h => absurd h List.not_mem_nil
theorem dt_52 : ∀ q ∈ mt_52, dm_E q.2 := by
  refine List.forall_mem_cons.mpr ⟨dm_aload _ _, ?_⟩
  refine List.forall_mem_cons.mpr ⟨dm_aload _ _, ?_⟩
  refine List.forall_mem_cons.mpr ⟨trivial, ?_⟩
  refine List.forall_mem_cons.mpr ⟨trivial, ?_⟩
  refine List.forall_mem_cons.mpr ⟨dm_if _ _ _, ?_⟩
  refine List.forall_mem_cons.mpr ⟨dm_aload _ _, ?_⟩
  refine List.forall_mem_cons.mpr ⟨trivial, ?_⟩
  refine List.forall_mem_cons.mpr ⟨dm_l2i _, ?_⟩
  refine List.forall_mem_cons.mpr ⟨dm_istore _ _, ?_⟩
  refine List.forall_mem_cons.mpr ⟨dm_const _ _, ?_⟩
  refine List.forall_mem_cons.mpr ⟨dm_aload _ _, ?_⟩
  refine List.forall_mem_cons.mpr ⟨dm_getf _ _ _, ?_⟩
  refine List.forall_mem_cons.mpr ⟨dm_const _ _, ?_⟩
  refine List.forall_mem_cons.mpr ⟨dm_bin _ _, ?_⟩
  refine List.forall_mem_cons.mpr ⟨dm_bin _ _, ?_⟩
  refine List.forall_mem_cons.mpr ⟨dm_istore _ _, ?_⟩
  refine List.forall_mem_cons.mpr ⟨dm_aload _ _, ?_⟩
  refine List.forall_mem_cons.mpr ⟨dm_getf _ _ _, ?_⟩
  refine List.forall_mem_cons.mpr ⟨dm_iload _ _, ?_⟩
  refine List.forall_mem_cons.mpr ⟨trivial, ?_⟩
  refine List.forall_mem_cons.mpr ⟨dm_const _ _, ?_⟩
  refine List.forall_mem_cons.mpr ⟨dm_iload _ _, ?_⟩
  refine List.forall_mem_cons.mpr ⟨dm_bin _ _, ?_⟩
  refine List.forall_mem_cons.mpr ⟨dm_const _ _, ?_⟩
  refine List.forall_mem_cons.mpr ⟨dm_bin _ _, ?_⟩
  refine List.forall_mem_cons.mpr ⟨dm_bin _ _, ?_⟩
  refine List.forall_mem_cons.mpr ⟨dm_istore _ _, ?_⟩
  refine List.forall_mem_cons.mpr ⟨dm_aload _ _, ?_⟩
  refine List.forall_mem_cons.mpr ⟨dm_getf _ _ _, ?_⟩
  refine List.forall_mem_cons.mpr ⟨dm_iload _ _, ?_⟩
  refine List.forall_mem_cons.mpr ⟨dm_iload _ _, ?_⟩
  refine List.forall_mem_cons.mpr ⟨dm_iload _ _, ?_⟩
  refine List.forall_mem_cons.mpr ⟨dm_const _ _, ?_⟩
  refine List.forall_mem_cons.mpr ⟨dm_bin _ _, ?_⟩
  refine List.forall_mem_cons.mpr ⟨dm_iload _ _, ?_⟩
  refine List.forall_mem_cons.mpr ⟨dm_bin _ _, ?_⟩
  refine List.forall_mem_cons.mpr ⟨dm_bin _ _, ?_⟩
  refine List.forall_mem_cons.mpr ⟨trivial, ?_⟩
  refine List.forall_mem_cons.mpr ⟨trivial, ?_⟩
  exact fun _ h => absurd h List.not_mem_nil
theorem dt_53 : ∀ q ∈ mt_53, dm_E q.2 := by
  refine List.forall_mem_cons.mpr ⟨dm_aload _ _, ?_⟩
  refine List.forall_mem_cons.mpr ⟨dm_getf _ _ _, ?_⟩
  refine List.forall_mem_cons.mpr ⟨dm_if _ _ _, ?_⟩
  refine List.forall_mem_cons.mpr ⟨dm_aload _ _, ?_⟩
  refine List.forall_mem_cons.mpr ⟨dm_const _ _, ?_⟩
  refine List.forall_mem_cons.mpr ⟨dm_putf _ _ _ _, ?_⟩
  refine List.forall_mem_cons.mpr ⟨dm_goto _, ?_⟩
  refine List.forall_mem_cons.mpr ⟨dm_aload _ _, ?_⟩
  refine List.forall_mem_cons.mpr ⟨dm_dup _, ?_⟩
  refine List.forall_mem_cons.mpr ⟨dm_getf _ _ _, ?_⟩
  refine List.forall_mem_cons.mpr ⟨dm_const _ _, ?_⟩
  refine List.forall_mem_cons.mpr ⟨dm_bin _ _, ?_⟩
  refine List.forall_mem_cons.mpr ⟨dm_putf _ _ _ _, ?_⟩
  refine List.forall_mem_cons.mpr ⟨trivial, ?_⟩
  exact fun _ h => absurd h List.not_mem_nil
theorem dt_54 : ∀ q ∈ mt_54, dm_E q.2 := by
  refine List.forall_mem_cons.mpr ⟨dm_aload _ _, ?_⟩
  refine List.forall_mem_cons.mpr ⟨dm_obj _, ?_⟩
  refine List.forall_mem_cons.mpr ⟨dm_aload _ _, ?_⟩
  refine List.forall_mem_cons.mpr ⟨dm_new _ _ _, ?_⟩
  refine List.forall_mem_cons.mpr ⟨dm_dup _, ?_⟩
  refine List.forall_mem_cons.mpr ⟨trivial, ?_⟩
  refine List.forall_mem_cons.mpr ⟨dm_putf _ _ _ _, ?_⟩
  refine List.forall_mem_cons.mpr ⟨dm_aload _ _, ?_⟩
  refine List.forall_mem_cons.mpr ⟨dm_new _ _ _, ?_⟩
  refine List.forall_mem_cons.mpr ⟨dm_dup _, ?_⟩
  refine List.forall_mem_cons.mpr ⟨trivial, ?_⟩
  refine List.forall_mem_cons.mpr ⟨dm_putf _ _ _ _, ?_⟩
  refine List.forall_mem_cons.mpr ⟨dm_aload _ _, ?_⟩
  refine List.forall_mem_cons.mpr ⟨dm_new _ _ _, ?_⟩
  refine List.forall_mem_cons.mpr ⟨dm_dup _, ?_⟩
  refine List.forall_mem_cons.mpr ⟨trivial, ?_⟩
  refine List.forall_mem_cons.mpr ⟨dm_putf _ _ _ _, ?_⟩
  refine List.forall_mem_cons.mpr ⟨dm_aload _ _, ?_⟩
  refine List.forall_mem_cons.mpr ⟨dm_new _ _ _, ?_⟩
  refine List.forall_mem_cons.mpr ⟨dm_dup _, ?_⟩
  refine List.forall_mem_cons.mpr ⟨trivial, ?_⟩
  refine List.forall_mem_cons.mpr ⟨dm_putf _ _ _ _, ?_⟩
  refine List.forall_mem_cons.mpr ⟨dm_aload _ _, ?_⟩
  refine List.forall_mem_cons.mpr ⟨dm_aload _ _, ?_⟩
  refine List.forall_mem_cons.mpr ⟨dm_putf _ _ _ _, ?_⟩
  refine List.forall_mem_cons.mpr ⟨trivial, ?_⟩
  exact fun _ h => absurd h List.not_mem_nil
theorem dt_55 : ∀ q ∈ mt_55, dm_E q.2 := by
  refine List.forall_mem_cons.mpr ⟨dm_aload _ _, ?_⟩
  refine List.forall_mem_cons.mpr ⟨dm_const _ _, ?_⟩
  refine List.forall_mem_cons.mpr ⟨dm_putf _ _ _ _, ?_⟩
  refine List.forall_mem_cons.mpr ⟨trivial, ?_⟩
  exact fun _ h => absurd h List.not_mem_nil
theorem dt_56 : ∀ q ∈ mt_56, dm_E q.2 := by
  refine List.forall_mem_cons.mpr ⟨dm_aload _ _, ?_⟩
  refine List.forall_mem_cons.mpr ⟨dm_getf _ _ _, ?_⟩
  refine List.forall_mem_cons.mpr ⟨dm_if _ _ _, ?_⟩
  refine List.forall_mem_cons.mpr ⟨dm_aload _ _, ?_⟩
  refine List.forall_mem_cons.mpr ⟨dm_aload _ _, ?_⟩
  refine List.forall_mem_cons.mpr ⟨dm_getf _ _ _, ?_⟩
  refine List.forall_mem_cons.mpr ⟨trivial, ?_⟩
  refine List.forall_mem_cons.mpr ⟨dm_if _ _ _, ?_⟩
  refine List.forall_mem_cons.mpr ⟨dm_aload _ _, ?_⟩
  refine List.forall_mem_cons.mpr ⟨trivial, ?_⟩
  refine List.forall_mem_cons.mpr ⟨dm_if _ _ _, ?_⟩
  refine List.forall_mem_cons.mpr ⟨dm_aload _ _, ?_⟩
  refine List.forall_mem_cons.mpr ⟨trivial, ?_⟩
  refine List.forall_mem_cons.mpr ⟨dm_if _ _ _, ?_⟩
  refine List.forall_mem_cons.mpr ⟨dm_aload _ _, ?_⟩
  refine List.forall_mem_cons.mpr ⟨trivial, ?_⟩
  refine List.forall_mem_cons.mpr ⟨dm_if _ _ _, ?_⟩
  refine List.forall_mem_cons.mpr ⟨dm_aload _ _, ?_⟩
  refine List.forall_mem_cons.mpr ⟨trivial, ?_⟩
  refine List.forall_mem_cons.mpr ⟨dm_if _ _ _, ?_⟩
  refine List.forall_mem_cons.mpr ⟨dm_aload _ _, ?_⟩
  refine List.forall_mem_cons.mpr ⟨trivial, ?_⟩
  refine List.forall_mem_cons.mpr ⟨dm_if _ _ _, ?_⟩
  refine List.forall_mem_cons.mpr ⟨dm_const _ _, ?_⟩
  refine List.forall_mem_cons.mpr ⟨dm_goto _, ?_⟩
  refine List.forall_mem_cons.mpr ⟨dm_const _ _, ?_⟩
  refine List.forall_mem_cons.mpr ⟨dm_putf _ _ _ _, ?_⟩
  refine List.forall_mem_cons.mpr ⟨dm_aload _ _, ?_⟩
  refine List.forall_mem_cons.mpr ⟨dm_const _ _, ?_⟩
  refine List.forall_mem_cons.mpr ⟨dm_putf _ _ _ _, ?_⟩
  refine List.forall_mem_cons.mpr ⟨dm_aload _ _, ?_⟩
  refine List.forall_mem_cons.mpr ⟨dm_getf _ _ _, ?_⟩
  refine List.forall_mem_cons.mpr ⟨trivial, ?_⟩
  exact fun _ h => absurd h List.not_mem_nil
theorem dt_57 : ∀ q ∈ mt_57, dm_E q.2 := by
  refine List.forall_mem_cons.mpr ⟨dm_aload _ _, ?_⟩
  refine List.forall_mem_cons.mpr ⟨dm_getf _ _ _, ?_⟩
  refine List.forall_mem_cons.mpr ⟨dm_iload _ _, ?_⟩
  refine List.forall_mem_cons.mpr ⟨trivial, ?_⟩
  refine List.forall_mem_cons.mpr ⟨dm_const _ _, ?_⟩
  refine List.forall_mem_cons.mpr ⟨dm_icmp _ _ _, ?_⟩
  refine List.forall_mem_cons.mpr ⟨dm_const _ _, ?_⟩
  refine List.forall_mem_cons.mpr ⟨dm_goto _, ?_⟩
  refine List.forall_mem_cons.mpr ⟨dm_const _ _, ?_⟩
  refine List.forall_mem_cons.mpr ⟨trivial, ?_⟩
  exact fun _ h => absurd h List.not_mem_nil
theorem dt_58 : ∀ q ∈ mt_58, dm_E q.2 := by
  refine List.forall_mem_cons.mpr ⟨dm_aload _ _, ?_⟩
  refine List.forall_mem_cons.mpr ⟨dm_getf _ _ _, ?_⟩
  refine List.forall_mem_cons.mpr ⟨dm_aload _ _, ?_⟩
  refine List.forall_mem_cons.mpr ⟨dm_getf _ _ _, ?_⟩
  refine List.forall_mem_cons.mpr ⟨dm_iload _ _, ?_⟩
  refine List.forall_mem_cons.mpr ⟨trivial, ?_⟩
  refine List.forall_mem_cons.mpr ⟨trivial, ?_⟩
  refine List.forall_mem_cons.mpr ⟨trivial, ?_⟩
  exact fun _ h => absurd h List.not_mem_nil
theorem dt_59 : ∀ q ∈ mt_59, dm_E q.2 := by
  refine List.forall_mem_cons.mpr ⟨dm_const _ _, ?_⟩
  refine List.forall_mem_cons.mpr ⟨dm_istore _ _, ?_⟩
  refine List.forall_mem_cons.mpr ⟨dm_iload _ _, ?_⟩
  refine List.forall_mem_cons.mpr ⟨dm_aload _ _, ?_⟩
  refine List.forall_mem_cons.mpr ⟨dm_getf _ _ _, ?_⟩
  refine List.forall_mem_cons.mpr ⟨trivial, ?_⟩
  refine List.forall_mem_cons.mpr ⟨dm_icmp _ _ _, ?_⟩
  refine List.forall_mem_cons.mpr ⟨dm_aload _ _, ?_⟩
  refine List.forall_mem_cons.mpr ⟨dm_getf _ _ _, ?_⟩
  refine List.forall_mem_cons.mpr ⟨dm_iload _ _, ?_⟩
  refine List.forall_mem_cons.mpr ⟨trivial, ?_⟩
  refine List.forall_mem_cons.mpr ⟨dm_istore _ _, ?_⟩
  refine List.forall_mem_cons.mpr ⟨dm_iload _ _, ?_⟩
  refine List.forall_mem_cons.mpr ⟨dm_if _ _ _, ?_⟩
  refine List.forall_mem_cons.mpr ⟨dm_iload _ _, ?_⟩
  refine List.forall_mem_cons.mpr ⟨dm_gets _ _, ?_⟩
  refine List.forall_mem_cons.mpr ⟨dm_alen _, ?_⟩
  refine List.forall_mem_cons.mpr ⟨dm_icmp _ _ _, ?_⟩
  refine List.forall_mem_cons.mpr ⟨dm_const _ _, ?_⟩
  refine List.forall_mem_cons.mpr ⟨trivial, ?_⟩
  refine List.forall_mem_cons.mpr ⟨dm_aload _ _, ?_⟩
  refine List.forall_mem_cons.mpr ⟨dm_getf _ _ _, ?_⟩
  refine List.forall_mem_cons.mpr ⟨dm_iload _ _, ?_⟩
  refine List.forall_mem_cons.mpr ⟨trivial, ?_⟩
  refine List.forall_mem_cons.mpr ⟨dm_istore _ _, ?_⟩
  refine List.forall_mem_cons.mpr ⟨dm_gets _ _, ?_⟩
  refine List.forall_mem_cons.mpr ⟨dm_iload _ _, ?_⟩
  refine List.forall_mem_cons.mpr ⟨dm_ald _ _, ?_⟩
  refine List.forall_mem_cons.mpr ⟨dm_istore _ _, ?_⟩
  refine List.forall_mem_cons.mpr ⟨dm_iload _ _, ?_⟩
  refine List.forall_mem_cons.mpr ⟨dm_if _ _ _, ?_⟩
  refine List.forall_mem_cons.mpr ⟨dm_iload _ _, ?_⟩
  refine List.forall_mem_cons.mpr ⟨dm_if _ _ _, ?_⟩
  refine List.forall_mem_cons.mpr ⟨dm_iload _ _, ?_⟩
  refine List.forall_mem_cons.mpr ⟨dm_iload _ _, ?_⟩
  refine List.forall_mem_cons.mpr ⟨dm_icmp _ _ _, ?_⟩
  refine List.forall_mem_cons.mpr ⟨dm_const _ _, ?_⟩
  refine List.forall_mem_cons.mpr ⟨trivial, ?_⟩
  refine List.forall_mem_cons.mpr ⟨dm_iinc _ _ _, ?_⟩
  refine List.forall_mem_cons.mpr ⟨dm_goto _, ?_⟩
  refine List.forall_mem_cons.mpr ⟨dm_const _ _, ?_⟩
  refine List.forall_mem_cons.mpr ⟨trivial, ?_⟩
  exact fun _ h => absurd h List.not_mem_nil
theorem dt_60 : ∀ q ∈ mt_60, dm_E q.2 := by
  refine List.forall_mem_cons.mpr ⟨dm_aload _ _, ?_⟩
  refine List.forall_mem_cons.mpr ⟨dm_getf _ _ _, ?_⟩
  refine List.forall_mem_cons.mpr ⟨dm_const _ _, ?_⟩
  refine List.forall_mem_cons.mpr ⟨dm_const _ _, ?_⟩
  refine List.forall_mem_cons.mpr ⟨trivial, ?_⟩
  refine List.forall_mem_cons.mpr ⟨dm_const _ _, ?_⟩
  refine List.forall_mem_cons.mpr ⟨dm_istore _ _, ?_⟩
  refine List.forall_mem_cons.mpr ⟨dm_iload _ _, ?_⟩
  refine List.forall_mem_cons.mpr ⟨dm_aload _ _, ?_⟩
  refine List.forall_mem_cons.mpr ⟨dm_getf _ _ _, ?_⟩
  refine List.forall_mem_cons.mpr ⟨trivial, ?_⟩
  refine List.forall_mem_cons.mpr ⟨dm_icmp _ _ _, ?_⟩
  refine List.forall_mem_cons.mpr ⟨dm_aload _ _, ?_⟩
  refine List.forall_mem_cons.mpr ⟨dm_getf _ _ _, ?_⟩
  refine List.forall_mem_cons.mpr ⟨dm_iload _ _, ?_⟩
  refine List.forall_mem_cons.mpr ⟨trivial, ?_⟩
  refine List.forall_mem_cons.mpr ⟨dm_const _ _, ?_⟩
  refine List.forall_mem_cons.mpr ⟨dm_icmp _ _ _, ?_⟩
  refine List.forall_mem_cons.mpr ⟨dm_aload _ _, ?_⟩
  refine List.forall_mem_cons.mpr ⟨dm_getf _ _ _, ?_⟩
  refine List.forall_mem_cons.mpr ⟨dm_iload _ _, ?_⟩
  refine List.forall_mem_cons.mpr ⟨trivial, ?_⟩
  refine List.forall_mem_cons.mpr ⟨dm_istore _ _, ?_⟩
  refine List.forall_mem_cons.mpr ⟨dm_aload _ _, ?_⟩
  refine List.forall_mem_cons.mpr ⟨dm_getf _ _ _, ?_⟩
  refine List.forall_mem_cons.mpr ⟨dm_iload _ _, ?_⟩
  refine List.forall_mem_cons.mpr ⟨trivial, ?_⟩
  refine List.forall_mem_cons.mpr ⟨dm_const _ _, ?_⟩
  refine List.forall_mem_cons.mpr ⟨dm_icmp _ _ _, ?_⟩
  refine List.forall_mem_cons.mpr ⟨dm_const _ _, ?_⟩
  refine List.forall_mem_cons.mpr ⟨trivial, ?_⟩
  refine List.forall_mem_cons.mpr ⟨dm_aload _ _, ?_⟩
  refine List.forall_mem_cons.mpr ⟨dm_getf _ _ _, ?_⟩
  refine List.forall_mem_cons.mpr ⟨dm_iload _ _, ?_⟩
  refine List.forall_mem_cons.mpr ⟨dm_iload _ _, ?_⟩
  refine List.forall_mem_cons.mpr ⟨trivial, ?_⟩
  refine List.forall_mem_cons.mpr ⟨dm_iinc _ _ _, ?_⟩
  refine List.forall_mem_cons.mpr ⟨dm_goto _, ?_⟩
  refine List.forall_mem_cons.mpr ⟨dm_const _ _, ?_⟩
  refine List.forall_mem_cons.mpr ⟨trivial, ?_⟩
  exact fun _ h => absurd h List.not_mem_nil
theorem dt_61 : ∀ q ∈ mt_61, dm_E q.2 := by
  refine List.forall_mem_cons.mpr ⟨dm_const _ _, ?_⟩
  refine List.forall_mem_cons.mpr ⟨dm_istore _ _, ?_⟩
  refine List.forall_mem_cons.mpr ⟨dm_iload _ _, ?_⟩
  refine List.forall_mem_cons.mpr ⟨dm_aload _ _, ?_⟩
  refine List.forall_mem_cons.mpr ⟨dm_getf _ _ _, ?_⟩
  refine List.forall_mem_cons.mpr ⟨trivial, ?_⟩
  refine List.forall_mem_cons.mpr ⟨dm_icmp _ _ _, ?_⟩
  refine List.forall_mem_cons.mpr ⟨dm_aload _ _, ?_⟩
  refine List.forall_mem_cons.mpr ⟨dm_getf _ _ _, ?_⟩
  refine List.forall_mem_cons.mpr ⟨dm_iload _ _, ?_⟩
  refine List.forall_mem_cons.mpr ⟨trivial, ?_⟩
  refine List.forall_mem_cons.mpr ⟨dm_istore _ _, ?_⟩
  refine List.forall_mem_cons.mpr ⟨dm_iload _ _, ?_⟩
  refine List.forall_mem_cons.mpr ⟨trivial, ?_⟩
  refine List.forall_mem_cons.mpr ⟨dm_if _ _ _, ?_⟩
  refine List.forall_mem_cons.mpr ⟨dm_aload _ _, ?_⟩
  refine List.forall_mem_cons.mpr ⟨dm_getf _ _ _, ?_⟩
  refine List.forall_mem_cons.mpr ⟨dm_aload _ _, ?_⟩
  refine List.forall_mem_cons.mpr ⟨dm_getf _ _ _, ?_⟩
  refine List.forall_mem_cons.mpr ⟨dm_iload _ _, ?_⟩
  refine List.forall_mem_cons.mpr ⟨trivial, ?_⟩
  refine List.forall_mem_cons.mpr ⟨trivial, ?_⟩
  refine List.forall_mem_cons.mpr ⟨dm_const _ _, ?_⟩
  refine List.forall_mem_cons.mpr ⟨dm_icmp _ _ _, ?_⟩
  refine List.forall_mem_cons.mpr ⟨dm_const _ _, ?_⟩
  refine List.forall_mem_cons.mpr ⟨trivial, ?_⟩
  refine List.forall_mem_cons.mpr ⟨dm_iload _ _, ?_⟩
  refine List.forall_mem_cons.mpr ⟨dm_const _ _, ?_⟩
  refine List.forall_mem_cons.mpr ⟨dm_icmp _ _ _, ?_⟩
  refine List.forall_mem_cons.mpr ⟨dm_aload _ _, ?_⟩
  refine List.forall_mem_cons.mpr ⟨dm_getf _ _ _, ?_⟩
  refine List.forall_mem_cons.mpr ⟨dm_iload _ _, ?_⟩
  refine List.forall_mem_cons.mpr ⟨dm_const _ _, ?_⟩
  refine List.forall_mem_cons.mpr ⟨dm_bin _ _, ?_⟩
  refine List.forall_mem_cons.mpr ⟨trivial, ?_⟩
  refine List.forall_mem_cons.mpr ⟨dm_const _ _, ?_⟩
  refine List.forall_mem_cons.mpr ⟨dm_icmp _ _ _, ?_⟩
  refine List.forall_mem_cons.mpr ⟨dm_const _ _, ?_⟩
  refine List.forall_mem_cons.mpr ⟨trivial, ?_⟩
  refine List.forall_mem_cons.mpr ⟨dm_iinc _ _ _, ?_⟩
  refine List.forall_mem_cons.mpr ⟨dm_goto _, ?_⟩
  refine List.forall_mem_cons.mpr ⟨dm_const _ _, ?_⟩
  refine List.forall_mem_cons.mpr ⟨trivial, ?_⟩
  exact fun _ h => absurd h List.not_mem_nil
theorem dt_62 : ∀ q ∈ mt_62, dm_E q.2 := by
  refine List.forall_mem_cons.mpr ⟨dm_aload _ _, ?_⟩
  refine List.forall_mem_cons.mpr ⟨dm_getf _ _ _, ?_⟩
  refine List.forall_mem_cons.mpr ⟨dm_iload _ _, ?_⟩
  refine List.forall_mem_cons.mpr ⟨trivial, ?_⟩
  refine List.forall_mem_cons.mpr ⟨dm_istore _ _, ?_⟩
  refine List.forall_mem_cons.mpr ⟨dm_iload _ _, ?_⟩
  refine List.forall_mem_cons.mpr ⟨trivial, ?_⟩
  refine List.forall_mem_cons.mpr ⟨dm_if _ _ _, ?_⟩
  refine List.forall_mem_cons.mpr ⟨dm_const _ _, ?_⟩
  refine List.forall_mem_cons.mpr ⟨trivial, ?_⟩
  refine List.forall_mem_cons.mpr ⟨dm_iload _ _, ?_⟩
  refine List.forall_mem_cons.mpr ⟨dm_const _ _, ?_⟩
  refine List.forall_mem_cons.mpr ⟨dm_icmp _ _ _, ?_⟩
  refine List.forall_mem_cons.mpr ⟨dm_iload _ _, ?_⟩
  refine List.forall_mem_cons.mpr ⟨dm_const _ _, ?_⟩
  refine List.forall_mem_cons.mpr ⟨dm_bin _ _, ?_⟩
  refine List.forall_mem_cons.mpr ⟨dm_goto _, ?_⟩
  refine List.forall_mem_cons.mpr ⟨dm_iload _ _, ?_⟩
  refine List.forall_mem_cons.mpr ⟨dm_const _ _, ?_⟩
  refine List.forall_mem_cons.mpr ⟨dm_bin _ _, ?_⟩
  refine List.forall_mem_cons.mpr ⟨trivial, ?_⟩
  exact fun _ h => absurd h List.not_mem_nil
theorem dt_63 : ∀ q ∈ mt_63, dm_E q.2 := by
  refine List.forall_mem_cons.mpr ⟨dm_aload _ _, ?_⟩
  refine List.forall_mem_cons.mpr ⟨dm_getf _ _ _, ?_⟩
  refine List.forall_mem_cons.mpr ⟨dm_iload _ _, ?_⟩
  refine List.forall_mem_cons.mpr ⟨trivial, ?_⟩
  refine List.forall_mem_cons.mpr ⟨dm_istore _ _, ?_⟩
  refine List.forall_mem_cons.mpr ⟨dm_iload _ _, ?_⟩
  refine List.forall_mem_cons.mpr ⟨dm_const _ _, ?_⟩
  refine List.forall_mem_cons.mpr ⟨dm_icmp _ _ _, ?_⟩
  refine List.forall_mem_cons.mpr ⟨dm_aload _ _, ?_⟩
  refine List.forall_mem_cons.mpr ⟨dm_getf _ _ _, ?_⟩
  refine List.forall_mem_cons.mpr ⟨dm_aload _ _, ?_⟩
  refine List.forall_mem_cons.mpr ⟨dm_getf _ _ _, ?_⟩
  refine List.forall_mem_cons.mpr ⟨dm_iload _ _, ?_⟩
  refine List.forall_mem_cons.mpr ⟨dm_const _ _, ?_⟩
  refine List.forall_mem_cons.mpr ⟨dm_bin _ _, ?_⟩
  refine List.forall_mem_cons.mpr ⟨trivial, ?_⟩
  refine List.forall_mem_cons.mpr ⟨trivial, ?_⟩
  refine List.forall_mem_cons.mpr ⟨trivial, ?_⟩
  refine List.forall_mem_cons.mpr ⟨dm_iload _ _, ?_⟩
  refine List.forall_mem_cons.mpr ⟨trivial, ?_⟩
  refine List.forall_mem_cons.mpr ⟨dm_if _ _ _, ?_⟩
  refine List.forall_mem_cons.mpr ⟨dm_aload _ _, ?_⟩
  refine List.forall_mem_cons.mpr ⟨dm_getf _ _ _, ?_⟩
  refine List.forall_mem_cons.mpr ⟨dm_aload _ _, ?_⟩
  refine List.forall_mem_cons.mpr ⟨dm_getf _ _ _, ?_⟩
  refine List.forall_mem_cons.mpr ⟨dm_iload _ _, ?_⟩
  refine List.forall_mem_cons.mpr ⟨trivial, ?_⟩
  refine List.forall_mem_cons.mpr ⟨trivial, ?_⟩
  refine List.forall_mem_cons.mpr ⟨dm_goto _, ?_⟩
  refine List.forall_mem_cons.mpr ⟨dm_const _ _, ?_⟩
  refine List.forall_mem_cons.mpr ⟨trivial, ?_⟩
  exact fun _ h => absurd h List.not_mem_nil
theorem dt_64 : ∀ q ∈ mt_64, dm_E q.2 := by
  refine List.forall_mem_cons.mpr ⟨dm_aload _ _, ?_⟩
  refine List.forall_mem_cons.mpr ⟨dm_getf _ _ _, ?_⟩
  refine List.forall_mem_cons.mpr ⟨dm_aload _ _, ?_⟩
  refine List.forall_mem_cons.mpr ⟨dm_getf _ _ _, ?_⟩
  refine List.forall_mem_cons.mpr ⟨trivial, ?_⟩
  refine List.forall_mem_cons.mpr ⟨dm_const _ _, ?_⟩
  refine List.forall_mem_cons.mpr ⟨trivial, ?_⟩
  refine List.forall_mem_cons.mpr ⟨dm_aload _ _, ?_⟩
  refine List.forall_mem_cons.mpr ⟨dm_getf _ _ _, ?_⟩
  refine List.forall_mem_cons.mpr ⟨dm_const _ _, ?_⟩
  refine List.forall_mem_cons.mpr ⟨trivial, ?_⟩
  refine List.forall_mem_cons.mpr ⟨dm_aload _ _, ?_⟩
  refine List.forall_mem_cons.mpr ⟨dm_const _ _, ?_⟩
  refine List.forall_mem_cons.mpr ⟨dm_const _ _, ?_⟩
  refine List.forall_mem_cons.mpr ⟨trivial, ?_⟩
  refine List.forall_mem_cons.mpr ⟨dm_pop _, ?_⟩
  refine List.forall_mem_cons.mpr ⟨dm_const _ _, ?_⟩
  refine List.forall_mem_cons.mpr ⟨dm_istore _ _, ?_⟩
  refine List.forall_mem_cons.mpr ⟨dm_iload _ _, ?_⟩
  refine List.forall_mem_cons.mpr ⟨dm_aload _ _, ?_⟩
  refine List.forall_mem_cons.mpr ⟨dm_getf _ _ _, ?_⟩
  refine List.forall_mem_cons.mpr ⟨trivial, ?_⟩
  refine List.forall_mem_cons.mpr ⟨dm_icmp _ _ _, ?_⟩
  refine List.forall_mem_cons.mpr ⟨dm_aload _ _, ?_⟩
  refine List.forall_mem_cons.mpr ⟨dm_getf _ _ _, ?_⟩
  refine List.forall_mem_cons.mpr ⟨trivial, ?_⟩
  refine List.forall_mem_cons.mpr ⟨dm_if _ _ _, ?_⟩
  refine List.forall_mem_cons.mpr ⟨dm_aload _ _, ?_⟩
  refine List.forall_mem_cons.mpr ⟨dm_aload _ _, ?_⟩
  refine List.forall_mem_cons.mpr ⟨dm_getf _ _ _, ?_⟩
  refine List.forall_mem_cons.mpr ⟨trivial, ?_⟩
  refine List.forall_mem_cons.mpr ⟨trivial, ?_⟩
  refine List.forall_mem_cons.mpr ⟨dm_if _ _ _, ?_⟩
  refine List.forall_mem_cons.mpr ⟨dm_const _ _, ?_⟩
  refine List.forall_mem_cons.mpr ⟨trivial, ?_⟩
  refine List.forall_mem_cons.mpr ⟨dm_iinc _ _ _, ?_⟩
  refine List.forall_mem_cons.mpr ⟨dm_goto _, ?_⟩
  refine List.forall_mem_cons.mpr ⟨dm_const _ _, ?_⟩
  refine List.forall_mem_cons.mpr ⟨trivial, ?_⟩
  exact fun _ h => absurd h List.not_mem_nil
theorem dt_65 : ∀ q ∈ mt_65, dm_E q.2 := by
  refine List.forall_mem_cons.mpr ⟨dm_aload _ _, ?_⟩
  refine List.forall_mem_cons.mpr ⟨dm_getf _ _ _, ?_⟩
  refine List.forall_mem_cons.mpr ⟨dm_iload _ _, ?_⟩
  refine List.forall_mem_cons.mpr ⟨trivial, ?_⟩
  refine List.forall_mem_cons.mpr ⟨dm_istore _ _, ?_⟩
  refine List.forall_mem_cons.mpr ⟨dm_iload _ _, ?_⟩
  refine List.forall_mem_cons.mpr ⟨dm_if _ _ _, ?_⟩
  refine List.forall_mem_cons.mpr ⟨dm_iload _ _, ?_⟩
  refine List.forall_mem_cons.mpr ⟨dm_gets _ _, ?_⟩
  refine List.forall_mem_cons.mpr ⟨dm_alen _, ?_⟩
  refine List.forall_mem_cons.mpr ⟨dm_icmp _ _ _, ?_⟩
  refine List.forall_mem_cons.mpr ⟨dm_iload _ _, ?_⟩
  refine List.forall_mem_cons.mpr ⟨dm_gets _ _, ?_⟩
  refine List.forall_mem_cons.mpr ⟨dm_alen _, ?_⟩
  refine List.forall_mem_cons.mpr ⟨dm_icmp _ _ _, ?_⟩
  refine List.forall_mem_cons.mpr ⟨dm_const _ _, ?_⟩
  refine List.forall_mem_cons.mpr ⟨trivial, ?_⟩
  refine List.forall_mem_cons.mpr ⟨dm_aload _ _, ?_⟩
  refine List.forall_mem_cons.mpr ⟨dm_getf _ _ _, ?_⟩
  refine List.forall_mem_cons.mpr ⟨dm_iload _ _, ?_⟩
  refine List.forall_mem_cons.mpr ⟨trivial, ?_⟩
  refine List.forall_mem_cons.mpr ⟨dm_gets _ _, ?_⟩
  refine List.forall_mem_cons.mpr ⟨dm_iload _ _, ?_⟩
  refine List.forall_mem_cons.mpr ⟨dm_ald _ _, ?_⟩
  refine List.forall_mem_cons.mpr ⟨dm_bin _ _, ?_⟩
  refine List.forall_mem_cons.mpr ⟨dm_istore _ _, ?_⟩
  refine List.forall_mem_cons.mpr ⟨dm_iload _ _, ?_⟩
  refine List.forall_mem_cons.mpr ⟨dm_gets _ _, ?_⟩
  refine List.forall_mem_cons.mpr ⟨dm_iload _ _, ?_⟩
  refine List.forall_mem_cons.mpr ⟨dm_ald _ _, ?_⟩
  refine List.forall_mem_cons.mpr ⟨dm_bin _ _, ?_⟩
  refine List.forall_mem_cons.mpr ⟨dm_istore _ _, ?_⟩
  refine List.forall_mem_cons.mpr ⟨dm_iload _ _, ?_⟩
  refine List.forall_mem_cons.mpr ⟨dm_if _ _ _, ?_⟩
  refine List.forall_mem_cons.mpr ⟨dm_iload _ _, ?_⟩
  refine List.forall_mem_cons.mpr ⟨dm_const _ _, ?_⟩
  refine List.forall_mem_cons.mpr ⟨dm_icmp _ _ _, ?_⟩
  refine List.forall_mem_cons.mpr ⟨dm_const _ _, ?_⟩
  refine List.forall_mem_cons.mpr ⟨trivial, ?_⟩
  refine List.forall_mem_cons.mpr ⟨dm_aload _ _, ?_⟩
  refine List.forall_mem_cons.mpr ⟨dm_iload _ _, ?_⟩
  refine List.forall_mem_cons.mpr ⟨trivial, ?_⟩
  refine List.forall_mem_cons.mpr ⟨dm_istore _ _, ?_⟩
  refine List.forall_mem_cons.mpr ⟨dm_iload _ _, ?_⟩
  refine List.forall_mem_cons.mpr ⟨dm_const _ _, ?_⟩
  refine List.forall_mem_cons.mpr ⟨dm_icmp _ _ _, ?_⟩
  refine List.forall_mem_cons.mpr ⟨dm_aload _ _, ?_⟩
  refine List.forall_mem_cons.mpr ⟨dm_iload _ _, ?_⟩
  refine List.forall_mem_cons.mpr ⟨dm_iload _ _, ?_⟩
  refine List.forall_mem_cons.mpr ⟨trivial, ?_⟩
  refine List.forall_mem_cons.mpr ⟨dm_if _ _ _, ?_⟩
  refine List.forall_mem_cons.mpr ⟨dm_const _ _, ?_⟩
  refine List.forall_mem_cons.mpr ⟨trivial, ?_⟩
  refine List.forall_mem_cons.mpr ⟨dm_aload _ _, ?_⟩
  refine List.forall_mem_cons.mpr ⟨dm_iload _ _, ?_⟩
  refine List.forall_mem_cons.mpr ⟨trivial, ?_⟩
  refine List.forall_mem_cons.mpr ⟨dm_istore _ _, ?_⟩
  refine List.forall_mem_cons.mpr ⟨dm_iload _ _, ?_⟩
  refine List.forall_mem_cons.mpr ⟨dm_const _ _, ?_⟩
  refine List.forall_mem_cons.mpr ⟨dm_icmp _ _ _, ?_⟩
  refine List.forall_mem_cons.mpr ⟨dm_aload _ _, ?_⟩
  refine List.forall_mem_cons.mpr ⟨dm_iload _ _, ?_⟩
  refine List.forall_mem_cons.mpr ⟨dm_iload _ _, ?_⟩
  refine List.forall_mem_cons.mpr ⟨trivial, ?_⟩
  refine List.forall_mem_cons.mpr ⟨dm_if _ _ _, ?_⟩
  refine List.forall_mem_cons.mpr ⟨dm_const _ _, ?_⟩
  refine List.forall_mem_cons.mpr ⟨dm_goto _, ?_⟩
  refine List.forall_mem_cons.mpr ⟨dm_const _ _, ?_⟩
  refine List.forall_mem_cons.mpr ⟨trivial, ?_⟩
  exact fun _ h => absurd h List.not_mem_nil
theorem dt_66 : ∀ q ∈ mt_66, dm_E q.2 := by
  refine List.forall_mem_cons.mpr ⟨dm_iload _ _, ?_⟩
  refine List.forall_mem_cons.mpr ⟨dm_aload _ _, ?_⟩
  refine List.forall_mem_cons.mpr ⟨dm_getf _ _ _, ?_⟩
  refine List.forall_mem_cons.mpr ⟨trivial, ?_⟩
  refine List.forall_mem_cons.mpr ⟨dm_icmp _ _ _, ?_⟩
  refine List.forall_mem_cons.mpr ⟨dm_const _ _, ?_⟩
  refine List.forall_mem_cons.mpr ⟨trivial, ?_⟩
  refine List.forall_mem_cons.mpr ⟨dm_aload _ _, ?_⟩
  refine List.forall_mem_cons.mpr ⟨dm_getf _ _ _, ?_⟩
  refine List.forall_mem_cons.mpr ⟨dm_iload _ _, ?_⟩
  refine List.forall_mem_cons.mpr ⟨trivial, ?_⟩
  refine List.forall_mem_cons.mpr ⟨dm_const _ _, ?_⟩
  refine List.forall_mem_cons.mpr ⟨dm_icmp _ _ _, ?_⟩
  refine List.forall_mem_cons.mpr ⟨dm_aload _ _, ?_⟩
  refine List.forall_mem_cons.mpr ⟨dm_getf _ _ _, ?_⟩
  refine List.forall_mem_cons.mpr ⟨dm_iload _ _, ?_⟩
  refine List.forall_mem_cons.mpr ⟨dm_iload _ _, ?_⟩
  refine List.forall_mem_cons.mpr ⟨trivial, ?_⟩
  refine List.forall_mem_cons.mpr ⟨dm_aload _ _, ?_⟩
  refine List.forall_mem_cons.mpr ⟨dm_getf _ _ _, ?_⟩
  refine List.forall_mem_cons.mpr ⟨dm_iload _ _, ?_⟩
  refine List.forall_mem_cons.mpr ⟨trivial, ?_⟩
  refine List.forall_mem_cons.mpr ⟨dm_aload _ _, ?_⟩
  refine List.forall_mem_cons.mpr ⟨dm_getf _ _ _, ?_⟩
  refine List.forall_mem_cons.mpr ⟨dm_iload _ _, ?_⟩
  refine List.forall_mem_cons.mpr ⟨trivial, ?_⟩
  refine List.forall_mem_cons.mpr ⟨dm_iload _ _, ?_⟩
  refine List.forall_mem_cons.mpr ⟨dm_icmp _ _ _, ?_⟩
  refine List.forall_mem_cons.mpr ⟨dm_const _ _, ?_⟩
  refine List.forall_mem_cons.mpr ⟨dm_goto _, ?_⟩
  refine List.forall_mem_cons.mpr ⟨dm_const _ _, ?_⟩
  refine List.forall_mem_cons.mpr ⟨trivial, ?_⟩
  exact fun _ h => absurd h List.not_mem_nil
theorem dt_67 : ∀ q ∈ mt_67, dm_E q.2 := by
  refine List.forall_mem_cons.mpr ⟨dm_aload _ _, ?_⟩
  refine List.forall_mem_cons.mpr ⟨dm_getf _ _ _, ?_⟩
  refine List.forall_mem_cons.mpr ⟨dm_aload _ _, ?_⟩
  refine List.forall_mem_cons.mpr ⟨dm_getf _ _ _, ?_⟩
  refine List.forall_mem_cons.mpr ⟨trivial, ?_⟩
  refine List.forall_mem_cons.mpr ⟨dm_const _ _, ?_⟩
  refine List.forall_mem_cons.mpr ⟨trivial, ?_⟩
  refine List.forall_mem_cons.mpr ⟨dm_const _ _, ?_⟩
  refine List.forall_mem_cons.mpr ⟨dm_istore _ _, ?_⟩
  refine List.forall_mem_cons.mpr ⟨dm_const _ _, ?_⟩
  refine List.forall_mem_cons.mpr ⟨dm_istore _ _, ?_⟩
  refine List.forall_mem_cons.mpr ⟨dm_iload _ _, ?_⟩
  refine List.forall_mem_cons.mpr ⟨dm_aload _ _, ?_⟩
  refine List.forall_mem_cons.mpr ⟨dm_getf _ _ _, ?_⟩
  refine List.forall_mem_cons.mpr ⟨trivial, ?_⟩
  refine List.forall_mem_cons.mpr ⟨dm_icmp _ _ _, ?_⟩
  refine List.forall_mem_cons.mpr ⟨dm_aload _ _, ?_⟩
  refine List.forall_mem_cons.mpr ⟨dm_iload _ _, ?_⟩
  refine List.forall_mem_cons.mpr ⟨trivial, ?_⟩
  refine List.forall_mem_cons.mpr ⟨dm_if _ _ _, ?_⟩
  refine List.forall_mem_cons.mpr ⟨dm_iinc _ _ _, ?_⟩
  refine List.forall_mem_cons.mpr ⟨dm_aload _ _, ?_⟩
  refine List.forall_mem_cons.mpr ⟨dm_aload _ _, ?_⟩
  refine List.forall_mem_cons.mpr ⟨dm_iload _ _, ?_⟩
  refine List.forall_mem_cons.mpr ⟨trivial, ?_⟩
  refine List.forall_mem_cons.mpr ⟨trivial, ?_⟩
  refine List.forall_mem_cons.mpr ⟨dm_aload _ _, ?_⟩
  refine List.forall_mem_cons.mpr ⟨dm_aload _ _, ?_⟩
  refine List.forall_mem_cons.mpr ⟨dm_iload _ _, ?_⟩
  refine List.forall_mem_cons.mpr ⟨trivial, ?_⟩
  refine List.forall_mem_cons.mpr ⟨trivial, ?_⟩
  refine List.forall_mem_cons.mpr ⟨dm_iinc _ _ _, ?_⟩
  refine List.forall_mem_cons.mpr ⟨dm_goto _, ?_⟩
  refine List.forall_mem_cons.mpr ⟨dm_aload _ _, ?_⟩
  refine List.forall_mem_cons.mpr ⟨dm_getf _ _ _, ?_⟩
  refine List.forall_mem_cons.mpr ⟨dm_const _ _, ?_⟩
  refine List.forall_mem_cons.mpr ⟨trivial, ?_⟩
  refine List.forall_mem_cons.mpr ⟨dm_const _ _, ?_⟩
  refine List.forall_mem_cons.mpr ⟨dm_istore _ _, ?_⟩
  refine List.forall_mem_cons.mpr ⟨dm_iload _ _, ?_⟩
  refine List.forall_mem_cons.mpr ⟨dm_aload _ _, ?_⟩
  refine List.forall_mem_cons.mpr ⟨dm_getf _ _ _, ?_⟩
  refine List.forall_mem_cons.mpr ⟨trivial, ?_⟩
  refine List.forall_mem_cons.mpr ⟨dm_icmp _ _ _, ?_⟩
  refine List.forall_mem_cons.mpr ⟨dm_aload _ _, ?_⟩
  refine List.forall_mem_cons.mpr ⟨dm_iload _ _, ?_⟩
  refine List.forall_mem_cons.mpr ⟨trivial, ?_⟩
  refine List.forall_mem_cons.mpr ⟨dm_if _ _ _, ?_⟩
  refine List.forall_mem_cons.mpr ⟨dm_aload _ _, ?_⟩
  refine List.forall_mem_cons.mpr ⟨dm_getf _ _ _, ?_⟩
  refine List.forall_mem_cons.mpr ⟨dm_iload _ _, ?_⟩
  refine List.forall_mem_cons.mpr ⟨trivial, ?_⟩
  refine List.forall_mem_cons.mpr ⟨dm_if _ _ _, ?_⟩
  refine List.forall_mem_cons.mpr ⟨dm_aload _ _, ?_⟩
  refine List.forall_mem_cons.mpr ⟨dm_getf _ _ _, ?_⟩
  refine List.forall_mem_cons.mpr ⟨dm_iload _ _, ?_⟩
  refine List.forall_mem_cons.mpr ⟨trivial, ?_⟩
  refine List.forall_mem_cons.mpr ⟨dm_iinc _ _ _, ?_⟩
  refine List.forall_mem_cons.mpr ⟨dm_goto _, ?_⟩
  refine List.forall_mem_cons.mpr ⟨dm_const _ _, ?_⟩
  refine List.forall_mem_cons.mpr ⟨dm_istore _ _, ?_⟩
  refine List.forall_mem_cons.mpr ⟨dm_iload _ _, ?_⟩
  refine List.forall_mem_cons.mpr ⟨dm_aload _ _, ?_⟩
  refine List.forall_mem_cons.mpr ⟨dm_getf _ _ _, ?_⟩
  refine List.forall_mem_cons.mpr ⟨trivial, ?_⟩
  refine List.forall_mem_cons.mpr ⟨dm_icmp _ _ _, ?_⟩
  refine List.forall_mem_cons.mpr ⟨dm_aload _ _, ?_⟩
  refine List.forall_mem_cons.mpr ⟨dm_getf _ _ _, ?_⟩
  refine List.forall_mem_cons.mpr ⟨trivial, ?_⟩
  refine List.forall_mem_cons.mpr ⟨dm_if _ _ _, ?_⟩
  refine List.forall_mem_cons.mpr ⟨dm_aload _ _, ?_⟩
  refine List.forall_mem_cons.mpr ⟨dm_getf _ _ _, ?_⟩
  refine List.forall_mem_cons.mpr ⟨trivial, ?_⟩
  refine List.forall_mem_cons.mpr ⟨dm_istore _ _, ?_⟩
  refine List.forall_mem_cons.mpr ⟨dm_iinc _ _ _, ?_⟩
  refine List.forall_mem_cons.mpr ⟨dm_aload _ _, ?_⟩
  refine List.forall_mem_cons.mpr ⟨dm_aload _ _, ?_⟩
  refine List.forall_mem_cons.mpr ⟨dm_iload _ _, ?_⟩
  refine List.forall_mem_cons.mpr ⟨trivial, ?_⟩
  refine List.forall_mem_cons.mpr ⟨trivial, ?_⟩
  refine List.forall_mem_cons.mpr ⟨dm_aload _ _, ?_⟩
  refine List.forall_mem_cons.mpr ⟨dm_aload _ _, ?_⟩
  refine List.forall_mem_cons.mpr ⟨dm_iload _ _, ?_⟩
  refine List.forall_mem_cons.mpr ⟨trivial, ?_⟩
  refine List.forall_mem_cons.mpr ⟨trivial, ?_⟩
  refine List.forall_mem_cons.mpr ⟨dm_iinc _ _ _, ?_⟩
  refine List.forall_mem_cons.mpr ⟨dm_goto _, ?_⟩
  refine List.forall_mem_cons.mpr ⟨dm_iload _ _, ?_⟩
  refine List.forall_mem_cons.mpr ⟨dm_if _ _ _, ?_⟩
  refine List.forall_mem_cons.mpr ⟨dm_const _ _, ?_⟩
  refine List.forall_mem_cons.mpr ⟨dm_goto _, ?_⟩
  refine List.forall_mem_cons.mpr ⟨dm_const _ _, ?_⟩
  refine List.forall_mem_cons.mpr ⟨trivial, ?_⟩
  exact fun _ h => absurd h List.not_mem_nil
theorem dt_68 : ∀ q ∈ mt_68, dm_E q.2 := by
  refine List.forall_mem_cons.mpr ⟨dm_aload _ _, ?_⟩
  refine List.forall_mem_cons.mpr ⟨dm_getf _ _ _, ?_⟩
  refine List.forall_mem_cons.mpr ⟨dm_iload _ _, ?_⟩
  refine List.forall_mem_cons.mpr ⟨trivial, ?_⟩
  refine List.forall_mem_cons.mpr ⟨dm_const _ _, ?_⟩
  refine List.forall_mem_cons.mpr ⟨dm_icmp _ _ _, ?_⟩
  refine List.forall_mem_cons.mpr ⟨dm_aload _ _, ?_⟩
  refine List.forall_mem_cons.mpr ⟨dm_getf _ _ _, ?_⟩
  refine List.forall_mem_cons.mpr ⟨dm_iload _ _, ?_⟩
  refine List.forall_mem_cons.mpr ⟨trivial, ?_⟩
  refine List.forall_mem_cons.mpr ⟨dm_const _ _, ?_⟩
  refine List.forall_mem_cons.mpr ⟨dm_icmp _ _ _, ?_⟩
  refine List.forall_mem_cons.mpr ⟨dm_const _ _, ?_⟩
  refine List.forall_mem_cons.mpr ⟨dm_goto _, ?_⟩
  refine List.forall_mem_cons.mpr ⟨dm_const _ _, ?_⟩
  refine List.forall_mem_cons.mpr ⟨trivial, ?_⟩
  exact fun _ h => absurd h List.not_mem_nil
theorem dt_69 : ∀ q ∈ mt_69, dm_E q.2 := by
  refine List.forall_mem_cons.mpr ⟨dm_aload _ _, ?_⟩
  refine List.forall_mem_cons.mpr ⟨dm_iload _ _, ?_⟩
  refine List.forall_mem_cons.mpr ⟨trivial, ?_⟩
  refine List.forall_mem_cons.mpr ⟨dm_if _ _ _, ?_⟩
  refine List.forall_mem_cons.mpr ⟨dm_aload _ _, ?_⟩
  refine List.forall_mem_cons.mpr ⟨dm_getf _ _ _, ?_⟩
  refine List.forall_mem_cons.mpr ⟨dm_iload _ _, ?_⟩
  refine List.forall_mem_cons.mpr ⟨dm_aload _ _, ?_⟩
  refine List.forall_mem_cons.mpr ⟨dm_getf _ _ _, ?_⟩
  refine List.forall_mem_cons.mpr ⟨dm_iload _ _, ?_⟩
  refine List.forall_mem_cons.mpr ⟨trivial, ?_⟩
  refine List.forall_mem_cons.mpr ⟨dm_const _ _, ?_⟩
  refine List.forall_mem_cons.mpr ⟨dm_bin _ _, ?_⟩
  refine List.forall_mem_cons.mpr ⟨trivial, ?_⟩
  refine List.forall_mem_cons.mpr ⟨trivial, ?_⟩
  exact fun _ h => absurd h List.not_mem_nil
theorem dt_70 : ∀ q ∈ mt_70, dm_E q.2 := by
  refine List.forall_mem_cons.mpr ⟨dm_aload _ _, ?_⟩
  refine List.forall_mem_cons.mpr ⟨dm_iload _ _, ?_⟩
  refine List.forall_mem_cons.mpr ⟨trivial, ?_⟩
  refine List.forall_mem_cons.mpr ⟨dm_if _ _ _, ?_⟩
  refine List.forall_mem_cons.mpr ⟨dm_aload _ _, ?_⟩
  refine List.forall_mem_cons.mpr ⟨dm_getf _ _ _, ?_⟩
  refine List.forall_mem_cons.mpr ⟨dm_iload _ _, ?_⟩
  refine List.forall_mem_cons.mpr ⟨dm_aload _ _, ?_⟩
  refine List.forall_mem_cons.mpr ⟨dm_getf _ _ _, ?_⟩
  refine List.forall_mem_cons.mpr ⟨dm_iload _ _, ?_⟩
  refine List.forall_mem_cons.mpr ⟨trivial, ?_⟩
  refine List.forall_mem_cons.mpr ⟨dm_const _ _, ?_⟩
  refine List.forall_mem_cons.mpr ⟨dm_bin _ _, ?_⟩
  refine List.forall_mem_cons.mpr ⟨trivial, ?_⟩
  refine List.forall_mem_cons.mpr ⟨dm_aload _ _, ?_⟩
  refine List.forall_mem_cons.mpr ⟨dm_getf _ _ _, ?_⟩
  refine List.forall_mem_cons.mpr ⟨dm_iload _ _, ?_⟩
  refine List.forall_mem_cons.mpr ⟨trivial, ?_⟩
  refine List.forall_mem_cons.mpr ⟨dm_if _ _ _, ?_⟩
  refine List.forall_mem_cons.mpr ⟨dm_aload _ _, ?_⟩
  refine List.forall_mem_cons.mpr ⟨dm_getf _ _ _, ?_⟩
  refine List.forall_mem_cons.mpr ⟨dm_iload _ _, ?_⟩
  refine List.forall_mem_cons.mpr ⟨trivial, ?_⟩
  refine List.forall_mem_cons.mpr ⟨trivial, ?_⟩
  exact fun _ h => absurd h List.not_mem_nil
theorem dt_71 : ∀ q ∈ mt_71, dm_E q.2 := by
  refine List.forall_mem_cons.mpr ⟨dm_aload _ _, ?_⟩
  refine List.forall_mem_cons.mpr ⟨dm_obj _, ?_⟩
  refine List.forall_mem_cons.mpr ⟨dm_aload _ _, ?_⟩
  refine List.forall_mem_cons.mpr ⟨dm_new _ _ _, ?_⟩
  refine List.forall_mem_cons.mpr ⟨dm_dup _, ?_⟩
  refine List.forall_mem_cons.mpr ⟨trivial, ?_⟩
  refine List.forall_mem_cons.mpr ⟨dm_putf _ _ _ _, ?_⟩
  refine List.forall_mem_cons.mpr ⟨dm_aload _ _, ?_⟩
  refine List.forall_mem_cons.mpr ⟨dm_new _ _ _, ?_⟩
  refine List.forall_mem_cons.mpr ⟨dm_dup _, ?_⟩
  refine List.forall_mem_cons.mpr ⟨trivial, ?_⟩
  refine List.forall_mem_cons.mpr ⟨dm_putf _ _ _ _, ?_⟩
  refine List.forall_mem_cons.mpr ⟨dm_aload _ _, ?_⟩
  refine List.forall_mem_cons.mpr ⟨dm_new _ _ _, ?_⟩
  refine List.forall_mem_cons.mpr ⟨dm_dup _, ?_⟩
  refine List.forall_mem_cons.mpr ⟨trivial, ?_⟩
  refine List.forall_mem_cons.mpr ⟨dm_putf _ _ _ _, ?_⟩
  refine List.forall_mem_cons.mpr ⟨dm_aload _ _, ?_⟩
  refine List.forall_mem_cons.mpr ⟨dm_new _ _ _, ?_⟩
  refine List.forall_mem_cons.mpr ⟨dm_dup _, ?_⟩
  refine List.forall_mem_cons.mpr ⟨trivial, ?_⟩
  refine List.forall_mem_cons.mpr ⟨dm_putf _ _ _ _, ?_⟩
  refine List.forall_mem_cons.mpr ⟨trivial, ?_⟩
  exact fun _ h => absurd h List.not_mem_nil
theorem dt_72 : ∀ q ∈ mt_72, dm_E q.2 := by
  refine List.forall_mem_cons.mpr ⟨dm_aload _ _, ?_⟩
  refine List.forall_mem_cons.mpr ⟨dm_aload _ _, ?_⟩
  refine List.forall_mem_cons.mpr ⟨dm_aload _ _, ?_⟩
  refine List.forall_mem_cons.mpr ⟨trivial, ?_⟩
  refine List.forall_mem_cons.mpr ⟨dm_const _ _, ?_⟩
  refine List.forall_mem_cons.mpr ⟨dm_istore _ _, ?_⟩
  refine List.forall_mem_cons.mpr ⟨dm_iload _ _, ?_⟩
  refine List.forall_mem_cons.mpr ⟨dm_const _ _, ?_⟩
  refine List.forall_mem_cons.mpr ⟨dm_icmp _ _ _, ?_⟩
  refine List.forall_mem_cons.mpr ⟨dm_aload _ _, ?_⟩
  refine List.forall_mem_cons.mpr ⟨dm_getf _ _ _, ?_⟩
  refine List.forall_mem_cons.mpr ⟨dm_astore _ _, ?_⟩
  refine List.forall_mem_cons.mpr ⟨dm_aload _ _, ?_⟩
  refine List.forall_mem_cons.mpr ⟨dm_aload _ _, ?_⟩
  refine List.forall_mem_cons.mpr ⟨dm_getf _ _ _, ?_⟩
  refine List.forall_mem_cons.mpr ⟨dm_putf _ _ _ _, ?_⟩
  refine List.forall_mem_cons.mpr ⟨dm_aload _ _, ?_⟩
  refine List.forall_mem_cons.mpr ⟨dm_aload _ _, ?_⟩
  refine List.forall_mem_cons.mpr ⟨dm_putf _ _ _ _, ?_⟩
  refine List.forall_mem_cons.mpr ⟨dm_aload _ _, ?_⟩
  refine List.forall_mem_cons.mpr ⟨trivial, ?_⟩
  refine List.forall_mem_cons.mpr ⟨dm_aload _ _, ?_⟩
  refine List.forall_mem_cons.mpr ⟨trivial, ?_⟩
  refine List.forall_mem_cons.mpr ⟨dm_aload _ _, ?_⟩
  refine List.forall_mem_cons.mpr ⟨trivial, ?_⟩
  refine List.forall_mem_cons.mpr ⟨dm_iinc _ _ _, ?_⟩
  refine List.forall_mem_cons.mpr ⟨dm_goto _, ?_⟩
  refine List.forall_mem_cons.mpr ⟨dm_aload _ _, ?_⟩
  refine List.forall_mem_cons.mpr ⟨dm_getf _ _ _, ?_⟩
  refine List.forall_mem_cons.mpr ⟨trivial, ?_⟩
  exact fun _ h => absurd h List.not_mem_nil
theorem dt_73 : ∀ q ∈ mt_73, dm_E q.2 := by
  refine List.forall_mem_cons.mpr ⟨dm_aload _ _, ?_⟩
  refine List.forall_mem_cons.mpr ⟨dm_getf _ _ _, ?_⟩
  refine List.forall_mem_cons.mpr ⟨dm_const _ _, ?_⟩
  refine List.forall_mem_cons.mpr ⟨trivial, ?_⟩
  refine List.forall_mem_cons.mpr ⟨dm_const _ _, ?_⟩
  refine List.forall_mem_cons.mpr ⟨dm_istore _ _, ?_⟩
  refine List.forall_mem_cons.mpr ⟨dm_iload _ _, ?_⟩
  refine List.forall_mem_cons.mpr ⟨dm_aload _ _, ?_⟩
  refine List.forall_mem_cons.mpr ⟨trivial, ?_⟩
  refine List.forall_mem_cons.mpr ⟨dm_icmp _ _ _, ?_⟩
  refine List.forall_mem_cons.mpr ⟨dm_aload _ _, ?_⟩
  refine List.forall_mem_cons.mpr ⟨dm_iload _ _, ?_⟩
  refine List.forall_mem_cons.mpr ⟨dm_const _ _, ?_⟩
  refine List.forall_mem_cons.mpr ⟨dm_bin _ _, ?_⟩
  refine List.forall_mem_cons.mpr ⟨trivial, ?_⟩
  refine List.forall_mem_cons.mpr ⟨dm_const _ _, ?_⟩
  refine List.forall_mem_cons.mpr ⟨dm_icmp _ _ _, ?_⟩
  refine List.forall_mem_cons.mpr ⟨dm_aload _ _, ?_⟩
  refine List.forall_mem_cons.mpr ⟨dm_iload _ _, ?_⟩
  refine List.forall_mem_cons.mpr ⟨dm_const _ _, ?_⟩
  refine List.forall_mem_cons.mpr ⟨dm_bin _ _, ?_⟩
  refine List.forall_mem_cons.mpr ⟨trivial, ?_⟩
  refine List.forall_mem_cons.mpr ⟨dm_if _ _ _, ?_⟩
  refine List.forall_mem_cons.mpr ⟨dm_const _ _, ?_⟩
  refine List.forall_mem_cons.mpr ⟨dm_goto _, ?_⟩
  refine List.forall_mem_cons.mpr ⟨dm_const _ _, ?_⟩
  refine List.forall_mem_cons.mpr ⟨dm_istore _ _, ?_⟩
  refine List.forall_mem_cons.mpr ⟨dm_iload _ _, ?_⟩
  refine List.forall_mem_cons.mpr ⟨dm_if _ _ _, ?_⟩
  refine List.forall_mem_cons.mpr ⟨dm_aload _ _, ?_⟩
  refine List.forall_mem_cons.mpr ⟨dm_iload _ _, ?_⟩
  refine List.forall_mem_cons.mpr ⟨trivial, ?_⟩
  refine List.forall_mem_cons.mpr ⟨dm_if _ _ _, ?_⟩
  refine List.forall_mem_cons.mpr ⟨dm_aload _ _, ?_⟩
  refine List.forall_mem_cons.mpr ⟨dm_getf _ _ _, ?_⟩
  refine List.forall_mem_cons.mpr ⟨dm_aload _ _, ?_⟩
  refine List.forall_mem_cons.mpr ⟨dm_iload _ _, ?_⟩
  refine List.forall_mem_cons.mpr ⟨trivial, ?_⟩
  refine List.forall_mem_cons.mpr ⟨dm_aload _ _, ?_⟩
  refine List.forall_mem_cons.mpr ⟨dm_iload _ _, ?_⟩
  refine List.forall_mem_cons.mpr ⟨trivial, ?_⟩
  refine List.forall_mem_cons.mpr ⟨trivial, ?_⟩
  refine List.forall_mem_cons.mpr ⟨dm_iinc _ _ _, ?_⟩
  refine List.forall_mem_cons.mpr ⟨dm_goto _, ?_⟩
  refine List.forall_mem_cons.mpr ⟨trivial, ?_⟩
  exact fun _ h => absurd h List.not_mem_nil
