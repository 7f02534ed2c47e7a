/-! NO ENTRY FILLS AN EMPTY ADDRESS: the tables (written by wip/gen99a.py) -/
theorem dt_0 : ∀ q ∈ mt_0, dm_E q.2 := by
  refine List.forall_mem_cons.mpr ⟨dm_iload _ _, ?_⟩
  refine List.forall_mem_cons.mpr ⟨dm_aload _ _, ?_⟩
  refine List.forall_mem_cons.mpr ⟨dm_alen _, ?_⟩
  refine List.forall_mem_cons.mpr ⟨dm_icmp _ _ _, ?_⟩
  refine List.forall_mem_cons.mpr ⟨dm_aload _ _, ?_⟩
  refine List.forall_mem_cons.mpr ⟨trivial, ?_⟩
  refine List.forall_mem_cons.mpr ⟨dm_iload _ _, ?_⟩
  refine List.forall_mem_cons.mpr ⟨dm_newa _ _, ?_⟩
  refine List.forall_mem_cons.mpr ⟨dm_astore _ _, ?_⟩
  refine List.forall_mem_cons.mpr ⟨dm_aload _ _, ?_⟩
  refine List.forall_mem_cons.mpr ⟨dm_const _ _, ?_⟩
  refine List.forall_mem_cons.mpr ⟨dm_aload _ _, ?_⟩
  refine List.forall_mem_cons.mpr ⟨dm_const _ _, ?_⟩
  refine List.forall_mem_cons.mpr ⟨dm_aload _ _, ?_⟩
  refine List.forall_mem_cons.mpr ⟨dm_alen _, ?_⟩
  refine List.forall_mem_cons.mpr ⟨dm_iload _ _, ?_⟩
  refine List.forall_mem_cons.mpr ⟨dm_min _, ?_⟩
  refine List.forall_mem_cons.mpr ⟨dm_copy _, ?_⟩
  refine List.forall_mem_cons.mpr ⟨dm_aload _ _, ?_⟩
  refine List.forall_mem_cons.mpr ⟨trivial, ?_⟩
  exact fun _ h => absurd h List.not_mem_nil
theorem dt_1 : ∀ q ∈ mt_1, dm_E q.2 := by
  refine List.forall_mem_cons.mpr ⟨dm_aload _ _, ?_⟩
  refine List.forall_mem_cons.mpr ⟨dm_obj _, ?_⟩
  refine List.forall_mem_cons.mpr ⟨dm_aload _ _, ?_⟩
  refine List.forall_mem_cons.mpr ⟨dm_const _ _, ?_⟩
  refine List.forall_mem_cons.mpr ⟨dm_newa _ _, ?_⟩
  refine List.forall_mem_cons.mpr ⟨dm_putf _ _ _ _, ?_⟩
  refine List.forall_mem_cons.mpr ⟨trivial, ?_⟩
  exact fun _ h => absurd h List.not_mem_nil
theorem dt_2 : ∀ q ∈ mt_2, dm_E q.2 := by
  refine List.forall_mem_cons.mpr ⟨dm_aload _ _, ?_⟩
  refine List.forall_mem_cons.mpr ⟨dm_getf _ _ _, ?_⟩
  refine List.forall_mem_cons.mpr ⟨trivial, ?_⟩
  exact fun _ h => absurd h List.not_mem_nil
theorem dt_3 : ∀ q ∈ mt_3, dm_E q.2 := by
  refine List.forall_mem_cons.mpr ⟨dm_iload _ _, ?_⟩
  refine List.forall_mem_cons.mpr ⟨dm_if _ _ _, ?_⟩
  refine List.forall_mem_cons.mpr ⟨dm_iload _ _, ?_⟩
  refine List.forall_mem_cons.mpr ⟨dm_aload _ _, ?_⟩
  refine List.forall_mem_cons.mpr ⟨dm_getf _ _ _, ?_⟩
  refine List.forall_mem_cons.mpr ⟨dm_icmp _ _ _, ?_⟩
  refine List.forall_mem_cons.mpr ⟨dm_aload _ _, ?_⟩
  refine List.forall_mem_cons.mpr ⟨dm_getf _ _ _, ?_⟩
  refine List.forall_mem_cons.mpr ⟨dm_iload _ _, ?_⟩
  refine List.forall_mem_cons.mpr ⟨dm_ald _ _, ?_⟩
  refine List.forall_mem_cons.mpr ⟨dm_goto _, ?_⟩
  refine List.forall_mem_cons.mpr ⟨dm_const _ _, ?_⟩
  refine List.forall_mem_cons.mpr ⟨trivial, ?_⟩
  exact fun _ h => absurd h List.not_mem_nil
theorem dt_4 : ∀ q ∈ mt_4, dm_E q.2 := by
  refine List.forall_mem_cons.mpr ⟨dm_iload _ _, ?_⟩
  refine List.forall_mem_cons.mpr ⟨dm_if _ _ _, ?_⟩
  refine List.forall_mem_cons.mpr ⟨dm_iload _ _, ?_⟩
  refine List.forall_mem_cons.mpr ⟨dm_aload _ _, ?_⟩
  refine List.forall_mem_cons.mpr ⟨dm_getf _ _ _, ?_⟩
  refine List.forall_mem_cons.mpr ⟨dm_icmp _ _ _, ?_⟩
  refine List.forall_mem_cons.mpr ⟨dm_aload _ _, ?_⟩
  refine List.forall_mem_cons.mpr ⟨dm_getf _ _ _, ?_⟩
  refine List.forall_mem_cons.mpr ⟨dm_iload _ _, ?_⟩
  refine List.forall_mem_cons.mpr ⟨dm_iload _ _, ?_⟩
  refine List.forall_mem_cons.mpr ⟨dm_ast _ _, ?_⟩
  refine List.forall_mem_cons.mpr ⟨trivial, ?_⟩
  exact fun _ h => absurd h List.not_mem_nil
theorem dt_5 : ∀ q ∈ mt_5, dm_E q.2 := by
  refine List.forall_mem_cons.mpr ⟨dm_aload _ _, ?_⟩
  refine List.forall_mem_cons.mpr ⟨dm_getf _ _ _, ?_⟩
  refine List.forall_mem_cons.mpr ⟨dm_aload _ _, ?_⟩
  refine List.forall_mem_cons.mpr ⟨dm_getf _ _ _, ?_⟩
  refine List.forall_mem_cons.mpr ⟨dm_alen _, ?_⟩
  refine List.forall_mem_cons.mpr ⟨dm_icmp _ _ _, ?_⟩
  refine List.forall_mem_cons.mpr ⟨dm_aload _ _, ?_⟩
  refine List.forall_mem_cons.mpr ⟨dm_aload _ _, ?_⟩
  refine List.forall_mem_cons.mpr ⟨dm_getf _ _ _, ?_⟩
  refine List.forall_mem_cons.mpr ⟨dm_const _ _, ?_⟩
  refine List.forall_mem_cons.mpr ⟨dm_aload _ _, ?_⟩
  refine List.forall_mem_cons.mpr ⟨dm_getf _ _ _, ?_⟩
  refine List.forall_mem_cons.mpr ⟨dm_alen _, ?_⟩
  refine List.forall_mem_cons.mpr ⟨dm_bin _ _, ?_⟩
  refine List.forall_mem_cons.mpr ⟨trivial, ?_⟩
  refine List.forall_mem_cons.mpr ⟨dm_putf _ _ _ _, ?_⟩
  refine List.forall_mem_cons.mpr ⟨dm_aload _ _, ?_⟩
  refine List.forall_mem_cons.mpr ⟨dm_getf _ _ _, ?_⟩
  refine List.forall_mem_cons.mpr ⟨dm_aload _ _, ?_⟩
  refine List.forall_mem_cons.mpr ⟨dm_getf _ _ _, ?_⟩
  refine List.forall_mem_cons.mpr ⟨dm_iload _ _, ?_⟩
  refine List.forall_mem_cons.mpr ⟨dm_ast _ _, ?_⟩
  refine List.forall_mem_cons.mpr ⟨dm_aload _ _, ?_⟩
  refine List.forall_mem_cons.mpr ⟨dm_dup _, ?_⟩
  refine List.forall_mem_cons.mpr ⟨dm_getf _ _ _, ?_⟩
  refine List.forall_mem_cons.mpr ⟨dm_const _ _, ?_⟩
  refine List.forall_mem_cons.mpr ⟨dm_bin _ _, ?_⟩
  refine List.forall_mem_cons.mpr ⟨dm_putf _ _ _ _, ?_⟩
  refine List.forall_mem_cons.mpr ⟨trivial, ?_⟩
  exact fun _ h => absurd h List.not_mem_nil
theorem dt_6 : ∀ q ∈ mt_6, dm_E q.2 := by
  refine List.forall_mem_cons.mpr ⟨dm_aload _ _, ?_⟩
  refine List.forall_mem_cons.mpr ⟨dm_getf _ _ _, ?_⟩
  refine List.forall_mem_cons.mpr ⟨dm_if _ _ _, ?_⟩
  refine List.forall_mem_cons.mpr ⟨dm_const _ _, ?_⟩
  refine List.forall_mem_cons.mpr ⟨trivial, ?_⟩
  refine List.forall_mem_cons.mpr ⟨dm_aload _ _, ?_⟩
  refine List.forall_mem_cons.mpr ⟨dm_dup _, ?_⟩
  refine List.forall_mem_cons.mpr ⟨dm_getf _ _ _, ?_⟩
  refine List.forall_mem_cons.mpr ⟨dm_const _ _, ?_⟩
  refine List.forall_mem_cons.mpr ⟨dm_bin _ _, ?_⟩
  refine List.forall_mem_cons.mpr ⟨dm_putf _ _ _ _, ?_⟩
  refine List.forall_mem_cons.mpr ⟨dm_aload _ _, ?_⟩
  refine List.forall_mem_cons.mpr ⟨dm_getf _ _ _, ?_⟩
  refine List.forall_mem_cons.mpr ⟨dm_aload _ _, ?_⟩
  refine List.forall_mem_cons.mpr ⟨dm_getf _ _ _, ?_⟩
  refine List.forall_mem_cons.mpr ⟨dm_ald _ _, ?_⟩
  refine List.forall_mem_cons.mpr ⟨trivial, ?_⟩
  exact fun _ h => absurd h List.not_mem_nil
theorem dt_7 : ∀ q ∈ mt_7, dm_E q.2 := by
  refine List.forall_mem_cons.mpr ⟨dm_iload _ _, ?_⟩
  refine List.forall_mem_cons.mpr ⟨dm_aload _ _, ?_⟩
  refine List.forall_mem_cons.mpr ⟨dm_getf _ _ _, ?_⟩
  refine List.forall_mem_cons.mpr ⟨dm_icmp _ _ _, ?_⟩
  refine List.forall_mem_cons.mpr ⟨dm_aload _ _, ?_⟩
  refine List.forall_mem_cons.mpr ⟨dm_iload _ _, ?_⟩
  refine List.forall_mem_cons.mpr ⟨dm_if _ _ _, ?_⟩
  refine List.forall_mem_cons.mpr ⟨dm_const _ _, ?_⟩
  refine List.forall_mem_cons.mpr ⟨dm_goto _, ?_⟩
  refine List.forall_mem_cons.mpr ⟨dm_iload _ _, ?_⟩
  refine List.forall_mem_cons.mpr ⟨dm_putf _ _ _ _, ?_⟩
  refine List.forall_mem_cons.mpr ⟨trivial, ?_⟩
  exact fun _ h => absurd h List.not_mem_nil
theorem dt_8 : ∀ q ∈ mt_8, dm_E q.2 := by
  refine List.forall_mem_cons.mpr ⟨dm_aload _ _, ?_⟩
  refine List.forall_mem_cons.mpr ⟨dm_const _ _, ?_⟩
  refine List.forall_mem_cons.mpr ⟨dm_putf _ _ _ _, ?_⟩
  refine List.forall_mem_cons.mpr ⟨dm_const _ _, ?_⟩
  refine List.forall_mem_cons.mpr ⟨dm_istore _ _, ?_⟩
  refine List.forall_mem_cons.mpr ⟨dm_iload _ _, ?_⟩
  refine List.forall_mem_cons.mpr ⟨dm_iload _ _, ?_⟩
  refine List.forall_mem_cons.mpr ⟨dm_icmp _ _ _, ?_⟩
  refine List.forall_mem_cons.mpr ⟨dm_aload _ _, ?_⟩
  refine List.forall_mem_cons.mpr ⟨dm_iload _ _, ?_⟩
  refine List.forall_mem_cons.mpr ⟨trivial, ?_⟩
  refine List.forall_mem_cons.mpr ⟨dm_iinc _ _ _, ?_⟩
  refine List.forall_mem_cons.mpr ⟨dm_goto _, ?_⟩
  refine List.forall_mem_cons.mpr ⟨trivial, ?_⟩
  exact fun _ h => absurd h List.not_mem_nil
theorem dt_9 : ∀ q ∈ mt_9, dm_E q.2 := by
  refine List.forall_mem_cons.mpr ⟨dm_iload _ _, ?_⟩
  refine List.forall_mem_cons.mpr ⟨dm_const _ _, ?_⟩
  refine List.forall_mem_cons.mpr ⟨dm_icmp _ _ _, ?_⟩
  refine List.forall_mem_cons.mpr ⟨dm_iload _ _, ?_⟩
  refine List.forall_mem_cons.mpr ⟨dm_const _ _, ?_⟩
  refine List.forall_mem_cons.mpr ⟨dm_icmp _ _ _, ?_⟩
  refine List.forall_mem_cons.mpr ⟨dm_const _ _, ?_⟩
  refine List.forall_mem_cons.mpr ⟨dm_goto _, ?_⟩
  refine List.forall_mem_cons.mpr ⟨dm_const _ _, ?_⟩
  refine List.forall_mem_cons.mpr ⟨trivial, ?_⟩
  exact fun _ h => absurd h List.not_mem_nil
theorem dt_10 : ∀ q ∈ mt_10, dm_E q.2 := by
  refine List.forall_mem_cons.mpr ⟨dm_iload _ _, ?_⟩
  refine List.forall_mem_cons.mpr ⟨dm_table _ _ _ _, ?_⟩
  refine List.forall_mem_cons.mpr ⟨dm_iload _ _, ?_⟩
  refine List.forall_mem_cons.mpr ⟨dm_iload _ _, ?_⟩
  refine List.forall_mem_cons.mpr ⟨dm_bin _ _, ?_⟩
  refine List.forall_mem_cons.mpr ⟨trivial, ?_⟩
  refine List.forall_mem_cons.mpr ⟨dm_iload _ _, ?_⟩
  refine List.forall_mem_cons.mpr ⟨dm_iload _ _, ?_⟩
  refine List.forall_mem_cons.mpr ⟨dm_bin _ _, ?_⟩
  refine List.forall_mem_cons.mpr ⟨trivial, ?_⟩
  refine List.forall_mem_cons.mpr ⟨dm_iload _ _, ?_⟩
  refine List.forall_mem_cons.mpr ⟨dm_iload _ _, ?_⟩
  refine List.forall_mem_cons.mpr ⟨dm_bin _ _, ?_⟩
  refine List.forall_mem_cons.mpr ⟨trivial, ?_⟩
  refine List.forall_mem_cons.mpr ⟨dm_iload _ _, ?_⟩
  refine List.forall_mem_cons.mpr ⟨dm_if _ _ _, ?_⟩
  refine List.forall_mem_cons.mpr ⟨dm_const _ _, ?_⟩
  refine List.forall_mem_cons.mpr ⟨dm_goto _, ?_⟩
  refine List.forall_mem_cons.mpr ⟨dm_iload _ _, ?_⟩
  refine List.forall_mem_cons.mpr ⟨dm_iload _ _, ?_⟩
  refine List.forall_mem_cons.mpr ⟨dm_div _ _, ?_⟩
  refine List.forall_mem_cons.mpr ⟨trivial, ?_⟩
  refine List.forall_mem_cons.mpr ⟨dm_iload _ _, ?_⟩
  refine List.forall_mem_cons.mpr ⟨dm_if _ _ _, ?_⟩
  refine List.forall_mem_cons.mpr ⟨dm_const _ _, ?_⟩
  refine List.forall_mem_cons.mpr ⟨dm_goto _, ?_⟩
  refine List.forall_mem_cons.mpr ⟨dm_iload _ _, ?_⟩
  refine List.forall_mem_cons.mpr ⟨dm_iload _ _, ?_⟩
  refine List.forall_mem_cons.mpr ⟨dm_div _ _, ?_⟩
  refine List.forall_mem_cons.mpr ⟨trivial, ?_⟩
  refine List.forall_mem_cons.mpr ⟨dm_iload _ _, ?_⟩
  refine List.forall_mem_cons.mpr ⟨dm_iload _ _, ?_⟩
  refine List.forall_mem_cons.mpr ⟨dm_bin _ _, ?_⟩
  refine List.forall_mem_cons.mpr ⟨trivial, ?_⟩
  refine List.forall_mem_cons.mpr ⟨dm_iload _ _, ?_⟩
  refine List.forall_mem_cons.mpr ⟨dm_iload _ _, ?_⟩
  refine List.forall_mem_cons.mpr ⟨dm_bin _ _, ?_⟩
  refine List.forall_mem_cons.mpr ⟨trivial, ?_⟩
  refine List.forall_mem_cons.mpr ⟨dm_iload _ _, ?_⟩
  refine List.forall_mem_cons.mpr ⟨dm_iload _ _, ?_⟩
  refine List.forall_mem_cons.mpr ⟨dm_bin _ _, ?_⟩
  refine List.forall_mem_cons.mpr ⟨dm_const _ _, ?_⟩
  refine List.forall_mem_cons.mpr ⟨dm_bin _ _, ?_⟩
  refine List.forall_mem_cons.mpr ⟨trivial, ?_⟩
  refine List.forall_mem_cons.mpr ⟨dm_iload _ _, ?_⟩
  refine List.forall_mem_cons.mpr ⟨dm_iload _ _, ?_⟩
  refine List.forall_mem_cons.mpr ⟨dm_bin _ _, ?_⟩
  refine List.forall_mem_cons.mpr ⟨trivial, ?_⟩
  refine List.forall_mem_cons.mpr ⟨dm_iload _ _, ?_⟩
  refine List.forall_mem_cons.mpr ⟨dm_if _ _ _, ?_⟩
  refine List.forall_mem_cons.mpr ⟨dm_iload _ _, ?_⟩
  refine List.forall_mem_cons.mpr ⟨dm_const _ _, ?_⟩
  refine List.forall_mem_cons.mpr ⟨dm_icmp _ _ _, ?_⟩
  refine List.forall_mem_cons.mpr ⟨dm_const _ _, ?_⟩
  refine List.forall_mem_cons.mpr ⟨dm_goto _, ?_⟩
  refine List.forall_mem_cons.mpr ⟨dm_iload _ _, ?_⟩
  refine List.forall_mem_cons.mpr ⟨dm_iload _ _, ?_⟩
  refine List.forall_mem_cons.mpr ⟨dm_bin _ _, ?_⟩
  refine List.forall_mem_cons.mpr ⟨trivial, ?_⟩
  refine List.forall_mem_cons.mpr ⟨dm_iload _ _, ?_⟩
  refine List.forall_mem_cons.mpr ⟨dm_if _ _ _, ?_⟩
  refine List.forall_mem_cons.mpr ⟨dm_iload _ _, ?_⟩
  refine List.forall_mem_cons.mpr ⟨dm_const _ _, ?_⟩
  refine List.forall_mem_cons.mpr ⟨dm_icmp _ _ _, ?_⟩
  refine List.forall_mem_cons.mpr ⟨dm_const _ _, ?_⟩
  refine List.forall_mem_cons.mpr ⟨dm_goto _, ?_⟩
  refine List.forall_mem_cons.mpr ⟨dm_iload _ _, ?_⟩
  refine List.forall_mem_cons.mpr ⟨dm_iload _ _, ?_⟩
  refine List.forall_mem_cons.mpr ⟨dm_bin _ _, ?_⟩
  refine List.forall_mem_cons.mpr ⟨trivial, ?_⟩
  exact fun _ h => absurd h List.not_mem_nil
theorem dt_11 : ∀ q ∈ mt_11, dm_E q.2 := by
  refine List.forall_mem_cons.mpr ⟨dm_iload _ _, ?_⟩
  refine List.forall_mem_cons.mpr ⟨dm_if _ _ _, ?_⟩
  refine List.forall_mem_cons.mpr ⟨dm_iload _ _, ?_⟩
  refine List.forall_mem_cons.mpr ⟨dm_const _ _, ?_⟩
  refine List.forall_mem_cons.mpr ⟨dm_icmp _ _ _, ?_⟩
  refine List.forall_mem_cons.mpr ⟨dm_iload _ _, ?_⟩
  refine List.forall_mem_cons.mpr ⟨dm_const _ _, ?_⟩
  refine List.forall_mem_cons.mpr ⟨dm_icmp _ _ _, ?_⟩
  refine List.forall_mem_cons.mpr ⟨dm_iload _ _, ?_⟩
  refine List.forall_mem_cons.mpr ⟨dm_const _ _, ?_⟩
  refine List.forall_mem_cons.mpr ⟨dm_icmp _ _ _, ?_⟩
  refine List.forall_mem_cons.mpr ⟨dm_const _ _, ?_⟩
  refine List.forall_mem_cons.mpr ⟨dm_goto _, ?_⟩
  refine List.forall_mem_cons.mpr ⟨dm_const _ _, ?_⟩
  refine List.forall_mem_cons.mpr ⟨trivial, ?_⟩
  exact fun _ h => absurd h List.not_mem_nil
theorem dt_12 : ∀ q ∈ mt_12, dm_E q.2 := by
  refine List.forall_mem_cons.mpr ⟨dm_iload _ _, ?_⟩
  refine List.forall_mem_cons.mpr ⟨dm_table _ _ _ _, ?_⟩
  refine List.forall_mem_cons.mpr ⟨dm_iload _ _, ?_⟩
  refine List.forall_mem_cons.mpr ⟨dm_const _ _, ?_⟩
  refine List.forall_mem_cons.mpr ⟨dm_icmp _ _ _, ?_⟩
  refine List.forall_mem_cons.mpr ⟨dm_const _ _, ?_⟩
  refine List.forall_mem_cons.mpr ⟨dm_goto _, ?_⟩
  refine List.forall_mem_cons.mpr ⟨dm_const _ _, ?_⟩
  refine List.forall_mem_cons.mpr ⟨trivial, ?_⟩
  refine List.forall_mem_cons.mpr ⟨dm_const _ _, ?_⟩
  refine List.forall_mem_cons.mpr ⟨trivial, ?_⟩
  refine List.forall_mem_cons.mpr ⟨dm_iload _ _, ?_⟩
  refine List.forall_mem_cons.mpr ⟨dm_const _ _, ?_⟩
  refine List.forall_mem_cons.mpr ⟨dm_icmp _ _ _, ?_⟩
  refine List.forall_mem_cons.mpr ⟨dm_const _ _, ?_⟩
  refine List.forall_mem_cons.mpr ⟨dm_goto _, ?_⟩
  refine List.forall_mem_cons.mpr ⟨dm_const _ _, ?_⟩
  refine List.forall_mem_cons.mpr ⟨trivial, ?_⟩
  refine List.forall_mem_cons.mpr ⟨dm_iload _ _, ?_⟩
  refine List.forall_mem_cons.mpr ⟨dm_if _ _ _, ?_⟩
  refine List.forall_mem_cons.mpr ⟨dm_const _ _, ?_⟩
  refine List.forall_mem_cons.mpr ⟨dm_goto _, ?_⟩
  refine List.forall_mem_cons.mpr ⟨dm_const _ _, ?_⟩
  refine List.forall_mem_cons.mpr ⟨trivial, ?_⟩
  exact fun _ h => absurd h List.not_mem_nil
theorem dt_13 : ∀ q ∈ mt_13, dm_E q.2 := by
  refine List.forall_mem_cons.mpr ⟨dm_iload _ _, ?_⟩
  refine List.forall_mem_cons.mpr ⟨dm_table _ _ _ _, ?_⟩
  refine List.forall_mem_cons.mpr ⟨dm_iload _ _, ?_⟩
  refine List.forall_mem_cons.mpr ⟨dm_iload _ _, ?_⟩
  refine List.forall_mem_cons.mpr ⟨dm_icmp _ _ _, ?_⟩
  refine List.forall_mem_cons.mpr ⟨dm_const _ _, ?_⟩
  refine List.forall_mem_cons.mpr ⟨dm_goto _, ?_⟩
  refine List.forall_mem_cons.mpr ⟨dm_const _ _, ?_⟩
  refine List.forall_mem_cons.mpr ⟨trivial, ?_⟩
  refine List.forall_mem_cons.mpr ⟨dm_iload _ _, ?_⟩
  refine List.forall_mem_cons.mpr ⟨dm_iload _ _, ?_⟩
  refine List.forall_mem_cons.mpr ⟨dm_icmp _ _ _, ?_⟩
  refine List.forall_mem_cons.mpr ⟨dm_const _ _, ?_⟩
  refine List.forall_mem_cons.mpr ⟨dm_goto _, ?_⟩
  refine List.forall_mem_cons.mpr ⟨dm_const _ _, ?_⟩
  refine List.forall_mem_cons.mpr ⟨trivial, ?_⟩
  refine List.forall_mem_cons.mpr ⟨dm_iload _ _, ?_⟩
  refine List.forall_mem_cons.mpr ⟨dm_iload _ _, ?_⟩
  refine List.forall_mem_cons.mpr ⟨dm_icmp _ _ _, ?_⟩
  refine List.forall_mem_cons.mpr ⟨dm_const _ _, ?_⟩
  refine List.forall_mem_cons.mpr ⟨dm_goto _, ?_⟩
  refine List.forall_mem_cons.mpr ⟨dm_const _ _, ?_⟩
  refine List.forall_mem_cons.mpr ⟨trivial, ?_⟩
  refine List.forall_mem_cons.mpr ⟨dm_iload _ _, ?_⟩
  refine List.forall_mem_cons.mpr ⟨dm_iload _ _, ?_⟩
  refine List.forall_mem_cons.mpr ⟨dm_icmp _ _ _, ?_⟩
  refine List.forall_mem_cons.mpr ⟨dm_const _ _, ?_⟩
  refine List.forall_mem_cons.mpr ⟨dm_goto _, ?_⟩
  refine List.forall_mem_cons.mpr ⟨dm_const _ _, ?_⟩
  refine List.forall_mem_cons.mpr ⟨trivial, ?_⟩
  refine List.forall_mem_cons.mpr ⟨dm_iload _ _, ?_⟩
  refine List.forall_mem_cons.mpr ⟨dm_iload _ _, ?_⟩
  refine List.forall_mem_cons.mpr ⟨dm_icmp _ _ _, ?_⟩
  refine List.forall_mem_cons.mpr ⟨dm_const _ _, ?_⟩
  refine List.forall_mem_cons.mpr ⟨dm_goto _, ?_⟩
  refine List.forall_mem_cons.mpr ⟨dm_const _ _, ?_⟩
  refine List.forall_mem_cons.mpr ⟨trivial, ?_⟩
  refine List.forall_mem_cons.mpr ⟨dm_iload _ _, ?_⟩
  refine List.forall_mem_cons.mpr ⟨dm_iload _ _, ?_⟩
  refine List.forall_mem_cons.mpr ⟨dm_icmp _ _ _, ?_⟩
  refine List.forall_mem_cons.mpr ⟨dm_const _ _, ?_⟩
  refine List.forall_mem_cons.mpr ⟨dm_goto _, ?_⟩
  refine List.forall_mem_cons.mpr ⟨dm_const _ _, ?_⟩
  refine List.forall_mem_cons.mpr ⟨trivial, ?_⟩
  exact fun _ h => absurd h List.not_mem_nil
theorem dt_14 : ∀ q ∈ mt_14, dm_E q.2 := by
  refine List.forall_mem_cons.mpr ⟨dm_iload _ _, ?_⟩
  refine List.forall_mem_cons.mpr ⟨dm_iload _ _, ?_⟩
  refine List.forall_mem_cons.mpr ⟨dm_iload _ _, ?_⟩
  refine List.forall_mem_cons.mpr ⟨trivial, ?_⟩
  refine List.forall_mem_cons.mpr ⟨dm_if _ _ _, ?_⟩
  refine List.forall_mem_cons.mpr ⟨dm_const _ _, ?_⟩
  refine List.forall_mem_cons.mpr ⟨dm_goto _, ?_⟩
  refine List.forall_mem_cons.mpr ⟨dm_const _ _, ?_⟩
  refine List.forall_mem_cons.mpr ⟨trivial, ?_⟩
  exact fun _ h => absurd h List.not_mem_nil
theorem dt_15 : ∀ q ∈ mt_15, dm_E q.2 := by
  refine List.forall_mem_cons.mpr ⟨dm_iload _ _, ?_⟩
  refine List.forall_mem_cons.mpr ⟨dm_const _ _, ?_⟩
  refine List.forall_mem_cons.mpr ⟨dm_icmp _ _ _, ?_⟩
  refine List.forall_mem_cons.mpr ⟨dm_const _ _, ?_⟩
  refine List.forall_mem_cons.mpr ⟨dm_iload _ _, ?_⟩
  refine List.forall_mem_cons.mpr ⟨dm_bin _ _, ?_⟩
  refine List.forall_mem_cons.mpr ⟨dm_goto _, ?_⟩
  refine List.forall_mem_cons.mpr ⟨dm_const _ _, ?_⟩
  refine List.forall_mem_cons.mpr ⟨dm_iload _ _, ?_⟩
  refine List.forall_mem_cons.mpr ⟨dm_bin _ _, ?_⟩
  refine List.forall_mem_cons.mpr ⟨trivial, ?_⟩
  exact fun _ h => absurd h List.not_mem_nil
theorem dt_16 : ∀ q ∈ mt_16, dm_E q.2 := by
  refine List.forall_mem_cons.mpr ⟨dm_iload _ _, ?_⟩
  refine List.forall_mem_cons.mpr ⟨dm_const _ _, ?_⟩
  refine List.forall_mem_cons.mpr ⟨dm_icmp _ _ _, ?_⟩
  refine List.forall_mem_cons.mpr ⟨dm_iload _ _, ?_⟩
  refine List.forall_mem_cons.mpr ⟨trivial, ?_⟩
  refine List.forall_mem_cons.mpr ⟨dm_iload _ _, ?_⟩
  refine List.forall_mem_cons.mpr ⟨dm_const _ _, ?_⟩
  refine List.forall_mem_cons.mpr ⟨dm_icmp _ _ _, ?_⟩
  refine List.forall_mem_cons.mpr ⟨dm_iload _ _, ?_⟩
  refine List.forall_mem_cons.mpr ⟨dm_const _ _, ?_⟩
  refine List.forall_mem_cons.mpr ⟨dm_bin _ _, ?_⟩
  refine List.forall_mem_cons.mpr ⟨dm_goto _, ?_⟩
  refine List.forall_mem_cons.mpr ⟨dm_iload _ _, ?_⟩
  refine List.forall_mem_cons.mpr ⟨dm_const _ _, ?_⟩
  refine List.forall_mem_cons.mpr ⟨dm_bin _ _, ?_⟩
  refine List.forall_mem_cons.mpr ⟨trivial, ?_⟩
  exact fun _ h => absurd h List.not_mem_nil
theorem dt_17 : ∀ q ∈ mt_17, dm_E q.2 := by
  refine List.forall_mem_cons.mpr ⟨dm_aload _ _, ?_⟩
  refine List.forall_mem_cons.mpr ⟨dm_obj _, ?_⟩
  refine List.forall_mem_cons.mpr ⟨dm_aload _ _, ?_⟩
  refine List.forall_mem_cons.mpr ⟨dm_const _ _, ?_⟩
  refine List.forall_mem_cons.mpr ⟨dm_newa _ _, ?_⟩
  refine List.forall_mem_cons.mpr ⟨dm_putf _ _ _ _, ?_⟩
  refine List.forall_mem_cons.mpr ⟨dm_aload _ _, ?_⟩
  refine List.forall_mem_cons.mpr ⟨dm_const _ _, ?_⟩
  refine List.forall_mem_cons.mpr ⟨dm_newa _ _, ?_⟩
  refine List.forall_mem_cons.mpr ⟨dm_putf _ _ _ _, ?_⟩
  refine List.forall_mem_cons.mpr ⟨trivial, ?_⟩
  exact fun _ h => absurd h List.not_mem_nil
theorem dt_18 : ∀ q ∈ mt_18, dm_E q.2 := by
  refine List.forall_mem_cons.mpr ⟨dm_iload _ _, ?_⟩
  refine List.forall_mem_cons.mpr ⟨dm_if _ _ _, ?_⟩
  refine List.forall_mem_cons.mpr ⟨dm_iload _ _, ?_⟩
  refine List.forall_mem_cons.mpr ⟨dm_const _ _, ?_⟩
  refine List.forall_mem_cons.mpr ⟨dm_icmp _ _ _, ?_⟩
  refine List.forall_mem_cons.mpr ⟨dm_const _ _, ?_⟩
  refine List.forall_mem_cons.mpr ⟨dm_goto _, ?_⟩
  refine List.forall_mem_cons.mpr ⟨dm_const _ _, ?_⟩
  refine List.forall_mem_cons.mpr ⟨trivial, ?_⟩
  exact fun _ h => absurd h List.not_mem_nil
theorem dt_19 : ∀ q ∈ mt_19, dm_E q.2 := by
  refine List.forall_mem_cons.mpr ⟨dm_lload _ _, ?_⟩
  refine List.forall_mem_cons.mpr ⟨dm_const _ _, ?_⟩
  refine List.forall_mem_cons.mpr ⟨dm_lcmp _, ?_⟩
  refine List.forall_mem_cons.mpr ⟨dm_if _ _ _, ?_⟩
  refine List.forall_mem_cons.mpr ⟨dm_lload _ _, ?_⟩
  refine List.forall_mem_cons.mpr ⟨dm_const _ _, ?_⟩
  refine List.forall_mem_cons.mpr ⟨dm_lcmp _, ?_⟩
  refine List.forall_mem_cons.mpr ⟨dm_if _ _ _, ?_⟩
  refine List.forall_mem_cons.mpr ⟨dm_const _ _, ?_⟩
  refine List.forall_mem_cons.mpr ⟨dm_goto _, ?_⟩
  refine List.forall_mem_cons.mpr ⟨dm_const _ _, ?_⟩
  refine List.forall_mem_cons.mpr ⟨trivial, ?_⟩
  exact fun _ h => absurd h List.not_mem_nil
theorem dt_20 : ∀ q ∈ mt_20, dm_E q.2 := by
  refine List.forall_mem_cons.mpr ⟨dm_iload _ _, ?_⟩
  refine List.forall_mem_cons.mpr ⟨trivial, ?_⟩
  refine List.forall_mem_cons.mpr ⟨dm_if _ _ _, ?_⟩
  refine List.forall_mem_cons.mpr ⟨dm_aload _ _, ?_⟩
  refine List.forall_mem_cons.mpr ⟨dm_getf _ _ _, ?_⟩
  refine List.forall_mem_cons.mpr ⟨dm_iload _ _, ?_⟩
  refine List.forall_mem_cons.mpr ⟨dm_ald _ _, ?_⟩
  refine List.forall_mem_cons.mpr ⟨dm_goto _, ?_⟩
  refine List.forall_mem_cons.mpr ⟨dm_const _ _, ?_⟩
  refine List.forall_mem_cons.mpr ⟨trivial, ?_⟩
  exact fun _ h => absurd h List.not_mem_nil
theorem dt_21 : ∀ q ∈ mt_21, dm_E q.2 := by
  refine List.forall_mem_cons.mpr ⟨dm_iload _ _, ?_⟩
  refine List.forall_mem_cons.mpr ⟨trivial, ?_⟩
  refine List.forall_mem_cons.mpr ⟨dm_if _ _ _, ?_⟩
  refine List.forall_mem_cons.mpr ⟨dm_aload _ _, ?_⟩
  refine List.forall_mem_cons.mpr ⟨dm_getf _ _ _, ?_⟩
  refine List.forall_mem_cons.mpr ⟨dm_iload _ _, ?_⟩
  refine List.forall_mem_cons.mpr ⟨dm_iload _ _, ?_⟩
  refine List.forall_mem_cons.mpr ⟨dm_ast _ _, ?_⟩
  refine List.forall_mem_cons.mpr ⟨trivial, ?_⟩
  exact fun _ h => absurd h List.not_mem_nil
theorem dt_22 : ∀ q ∈ mt_22, dm_E q.2 := by
  refine List.forall_mem_cons.mpr ⟨dm_iload _ _, ?_⟩
  refine List.forall_mem_cons.mpr ⟨dm_i2l _, ?_⟩
  refine List.forall_mem_cons.mpr ⟨trivial, ?_⟩
  refine List.forall_mem_cons.mpr ⟨dm_if _ _ _, ?_⟩
  refine List.forall_mem_cons.mpr ⟨dm_aload _ _, ?_⟩
  refine List.forall_mem_cons.mpr ⟨dm_getf _ _ _, ?_⟩
  refine List.forall_mem_cons.mpr ⟨dm_iload _ _, ?_⟩
  refine List.forall_mem_cons.mpr ⟨dm_ald _ _, ?_⟩
  refine List.forall_mem_cons.mpr ⟨dm_goto _, ?_⟩
  refine List.forall_mem_cons.mpr ⟨dm_const _ _, ?_⟩
  refine List.forall_mem_cons.mpr ⟨trivial, ?_⟩
  exact fun _ h => absurd h List.not_mem_nil
theorem dt_23 : ∀ q ∈ mt_23, dm_E q.2 := by
  refine List.forall_mem_cons.mpr ⟨dm_iload _ _, ?_⟩
  refine List.forall_mem_cons.mpr ⟨dm_i2l _, ?_⟩
  refine List.forall_mem_cons.mpr ⟨trivial, ?_⟩
  refine List.forall_mem_cons.mpr ⟨dm_if _ _ _, ?_⟩
  refine List.forall_mem_cons.mpr ⟨dm_aload _ _, ?_⟩
  refine List.forall_mem_cons.mpr ⟨dm_getf _ _ _, ?_⟩
  refine List.forall_mem_cons.mpr ⟨dm_iload _ _, ?_⟩
  refine List.forall_mem_cons.mpr ⟨dm_iload _ _, ?_⟩
  refine List.forall_mem_cons.mpr ⟨dm_ast _ _, ?_⟩
  refine List.forall_mem_cons.mpr ⟨trivial, ?_⟩
  exact fun _ h => absurd h List.not_mem_nil
theorem dt_24 : ∀ q ∈ mt_24, dm_E q.2 := by
  refine List.forall_mem_cons.mpr ⟨dm_aload _ _, ?_⟩
  refine List.forall_mem_cons.mpr ⟨dm_obj _, ?_⟩
  refine List.forall_mem_cons.mpr ⟨dm_aload _ _, ?_⟩
  refine List.forall_mem_cons.mpr ⟨dm_new _ _ _, ?_⟩
  refine List.forall_mem_cons.mpr ⟨dm_dup _, ?_⟩
  refine List.forall_mem_cons.mpr ⟨trivial, ?_⟩
  refine List.forall_mem_cons.mpr ⟨dm_putf _ _ _ _, ?_⟩
  refine List.forall_mem_cons.mpr ⟨dm_aload _ _, ?_⟩
  refine List.forall_mem_cons.mpr ⟨dm_new _ _ _, ?_⟩
  refine List.forall_mem_cons.mpr ⟨dm_dup _, ?_⟩
  refine List.forall_mem_cons.mpr ⟨trivial, ?_⟩
  refine List.forall_mem_cons.mpr ⟨dm_putf _ _ _ _, ?_⟩
  refine List.forall_mem_cons.mpr ⟨trivial, ?_⟩
  exact fun _ h => absurd h List.not_mem_nil
theorem dt_25 : ∀ q ∈ mt_25, dm_E q.2 := by
  refine List.forall_mem_cons.mpr ⟨dm_aload _ _, ?_⟩
  refine List.forall_mem_cons.mpr ⟨dm_getf _ _ _, ?_⟩
  refine List.forall_mem_cons.mpr ⟨trivial, ?_⟩
  refine List.forall_mem_cons.mpr ⟨trivial, ?_⟩
  exact fun _ h => absurd h List.not_mem_nil
theorem dt_26 : ∀ q ∈ mt_26, dm_E q.2 := by
  refine List.forall_mem_cons.mpr ⟨dm_aload _ _, ?_⟩
  refine List.forall_mem_cons.mpr ⟨dm_getf _ _ _, ?_⟩
  refine List.forall_mem_cons.mpr ⟨dm_iload _ _, ?_⟩
  refine List.forall_mem_cons.mpr ⟨trivial, ?_⟩
  refine List.forall_mem_cons.mpr ⟨trivial, ?_⟩
  exact fun _ h => absurd h List.not_mem_nil
theorem dt_27 : ∀ q ∈ mt_27, dm_E q.2 := by
  refine List.forall_mem_cons.mpr ⟨dm_aload _ _, ?_⟩
  refine List.forall_mem_cons.mpr ⟨dm_getf _ _ _, ?_⟩
  refine List.forall_mem_cons.mpr ⟨dm_iload _ _, ?_⟩
  refine List.forall_mem_cons.mpr ⟨trivial, ?_⟩
  refine List.forall_mem_cons.mpr ⟨trivial, ?_⟩
  exact fun _ h => absurd h List.not_mem_nil
theorem dt_28 : ∀ q ∈ mt_28, dm_E q.2 := by
  refine List.forall_mem_cons.mpr ⟨dm_aload _ _, ?_⟩
  refine List.forall_mem_cons.mpr ⟨dm_getf _ _ _, ?_⟩
  refine List.forall_mem_cons.mpr ⟨dm_iload _ _, ?_⟩
  refine List.forall_mem_cons.mpr ⟨trivial, ?_⟩
  refine List.forall_mem_cons.mpr ⟨dm_aload _ _, ?_⟩
  refine List.forall_mem_cons.mpr ⟨dm_getf _ _ _, ?_⟩
  refine List.forall_mem_cons.mpr ⟨dm_iload _ _, ?_⟩
  refine List.forall_mem_cons.mpr ⟨trivial, ?_⟩
  refine List.forall_mem_cons.mpr ⟨trivial, ?_⟩
  exact fun _ h => absurd h List.not_mem_nil
theorem dt_29 : ∀ q ∈ mt_29, dm_E q.2 := by
  refine List.forall_mem_cons.mpr ⟨dm_aload _ _, ?_⟩
  refine List.forall_mem_cons.mpr ⟨dm_getf _ _ _, ?_⟩
  refine List.forall_mem_cons.mpr ⟨dm_iload _ _, ?_⟩
  refine List.forall_mem_cons.mpr ⟨trivial, ?_⟩
  refine List.forall_mem_cons.mpr ⟨dm_aload _ _, ?_⟩
  refine List.forall_mem_cons.mpr ⟨dm_getf _ _ _, ?_⟩
  refine List.forall_mem_cons.mpr ⟨dm_iload _ _, ?_⟩
  refine List.forall_mem_cons.mpr ⟨trivial, ?_⟩
  refine List.forall_mem_cons.mpr ⟨trivial, ?_⟩
  exact fun _ h => absurd h List.not_mem_nil
theorem dt_30 : ∀ q ∈ mt_30, dm_E q.2 := by
  refine List.forall_mem_cons.mpr ⟨dm_aload _ _, ?_⟩
  refine List.forall_mem_cons.mpr ⟨dm_getf _ _ _, ?_⟩
  refine List.forall_mem_cons.mpr ⟨dm_aload _ _, ?_⟩
  refine List.forall_mem_cons.mpr ⟨dm_getf _ _ _, ?_⟩
  refine List.forall_mem_cons.mpr ⟨trivial, ?_⟩
  refine List.forall_mem_cons.mpr ⟨dm_const _ _, ?_⟩
  refine List.forall_mem_cons.mpr ⟨dm_bin _ _, ?_⟩
  refine List.forall_mem_cons.mpr ⟨dm_iload _ _, ?_⟩
  refine List.forall_mem_cons.mpr ⟨dm_bin _ _, ?_⟩
  refine List.forall_mem_cons.mpr ⟨trivial, ?_⟩
  refine List.forall_mem_cons.mpr ⟨trivial, ?_⟩
  exact fun _ h => absurd h List.not_mem_nil
theorem dt_31 : ∀ q ∈ mt_31, dm_E q.2 := by
  refine List.forall_mem_cons.mpr ⟨dm_aload _ _, ?_⟩
  refine List.forall_mem_cons.mpr ⟨dm_getf _ _ _, ?_⟩
  refine List.forall_mem_cons.mpr ⟨dm_aload _ _, ?_⟩
  refine List.forall_mem_cons.mpr ⟨dm_getf _ _ _, ?_⟩
  refine List.forall_mem_cons.mpr ⟨trivial, ?_⟩
  refine List.forall_mem_cons.mpr ⟨dm_const _ _, ?_⟩
  refine List.forall_mem_cons.mpr ⟨dm_bin _ _, ?_⟩
  refine List.forall_mem_cons.mpr ⟨dm_iload _ _, ?_⟩
  refine List.forall_mem_cons.mpr ⟨dm_bin _ _, ?_⟩
  refine List.forall_mem_cons.mpr ⟨trivial, ?_⟩
  refine List.forall_mem_cons.mpr ⟨trivial, ?_⟩
  exact fun _ h => absurd h List.not_mem_nil
theorem dt_32 : ∀ q ∈ mt_32, dm_E q.2 := by
  refine List.forall_mem_cons.mpr ⟨dm_aload _ _, ?_⟩
  refine List.forall_mem_cons.mpr ⟨dm_getf _ _ _, ?_⟩
  refine List.forall_mem_cons.mpr ⟨trivial, ?_⟩
  refine List.forall_mem_cons.mpr ⟨dm_pop _, ?_⟩
  refine List.forall_mem_cons.mpr ⟨dm_aload _ _, ?_⟩
  refine List.forall_mem_cons.mpr ⟨dm_getf _ _ _, ?_⟩
  refine List.forall_mem_cons.mpr ⟨trivial, ?_⟩
  refine List.forall_mem_cons.mpr ⟨dm_pop _, ?_⟩
  refine List.forall_mem_cons.mpr ⟨trivial, ?_⟩
  exact fun _ h => absurd h List.not_mem_nil
theorem dt_33 : ∀ q ∈ mt_33, dm_E q.2 := by
  refine List.forall_mem_cons.mpr ⟨dm_aload _ _, ?_⟩
  refine List.forall_mem_cons.mpr ⟨dm_getf _ _ _, ?_⟩
  refine List.forall_mem_cons.mpr ⟨dm_aload _ _, ?_⟩
  refine List.forall_mem_cons.mpr ⟨dm_getf _ _ _, ?_⟩
  refine List.forall_mem_cons.mpr ⟨trivial, ?_⟩
  refine List.forall_mem_cons.mpr ⟨dm_iload _ _, ?_⟩
  refine List.forall_mem_cons.mpr ⟨dm_bin _ _, ?_⟩
  refine List.forall_mem_cons.mpr ⟨trivial, ?_⟩
  refine List.forall_mem_cons.mpr ⟨dm_aload _ _, ?_⟩
  refine List.forall_mem_cons.mpr ⟨dm_getf _ _ _, ?_⟩
  refine List.forall_mem_cons.mpr ⟨dm_aload _ _, ?_⟩
  refine List.forall_mem_cons.mpr ⟨dm_getf _ _ _, ?_⟩
  refine List.forall_mem_cons.mpr ⟨trivial, ?_⟩
  refine List.forall_mem_cons.mpr ⟨dm_iload _ _, ?_⟩
  refine List.forall_mem_cons.mpr ⟨dm_bin _ _, ?_⟩
  refine List.forall_mem_cons.mpr ⟨trivial, ?_⟩
  refine List.forall_mem_cons.mpr ⟨dm_aload _ _, ?_⟩
  refine List.forall_mem_cons.mpr ⟨dm_getf _ _ _, ?_⟩
  refine List.forall_mem_cons.mpr ⟨dm_iload _ _, ?_⟩
  refine List.forall_mem_cons.mpr ⟨trivial, ?_⟩
  refine List.forall_mem_cons.mpr ⟨dm_aload _ _, ?_⟩
  refine List.forall_mem_cons.mpr ⟨dm_getf _ _ _, ?_⟩
  refine List.forall_mem_cons.mpr ⟨dm_iload _ _, ?_⟩
  refine List.forall_mem_cons.mpr ⟨trivial, ?_⟩
  refine List.forall_mem_cons.mpr ⟨trivial, ?_⟩
  exact fun _ h => absurd h List.not_mem_nil
theorem dt_34 : ∀ q ∈ mt_34, dm_E q.2 := by
  refine List.forall_mem_cons.mpr ⟨dm_aload _ _, ?_⟩
  refine List.forall_mem_cons.mpr ⟨dm_obj _, ?_⟩
  refine List.forall_mem_cons.mpr ⟨dm_aload _ _, ?_⟩
  refine List.forall_mem_cons.mpr ⟨dm_new _ _ _, ?_⟩
  refine List.forall_mem_cons.mpr ⟨dm_dup _, ?_⟩
  refine List.forall_mem_cons.mpr ⟨trivial, ?_⟩
  refine List.forall_mem_cons.mpr ⟨dm_putf _ _ _ _, ?_⟩
  refine List.forall_mem_cons.mpr ⟨dm_aload _ _, ?_⟩
  refine List.forall_mem_cons.mpr ⟨dm_new _ _ _, ?_⟩
  refine List.forall_mem_cons.mpr ⟨dm_dup _, ?_⟩
  refine List.forall_mem_cons.mpr ⟨trivial, ?_⟩
  refine List.forall_mem_cons.mpr ⟨dm_putf _ _ _ _, ?_⟩
  refine List.forall_mem_cons.mpr ⟨dm_aload _ _, ?_⟩
  refine List.forall_mem_cons.mpr ⟨dm_new _ _ _, ?_⟩
  refine List.forall_mem_cons.mpr ⟨dm_dup _, ?_⟩
  refine List.forall_mem_cons.mpr ⟨trivial, ?_⟩
  refine List.forall_mem_cons.mpr ⟨dm_putf _ _ _ _, ?_⟩
  refine List.forall_mem_cons.mpr ⟨trivial, ?_⟩
  exact fun _ h => absurd h List.not_mem_nil
theorem dt_35 : ∀ q ∈ mt_35, dm_E q.2 := by
  refine List.forall_mem_cons.mpr ⟨dm_aload _ _, ?_⟩
  refine List.forall_mem_cons.mpr ⟨dm_getf _ _ _, ?_⟩
  refine List.forall_mem_cons.mpr ⟨dm_const _ _, ?_⟩
  refine List.forall_mem_cons.mpr ⟨trivial, ?_⟩
  refine List.forall_mem_cons.mpr ⟨dm_aload _ _, ?_⟩
  refine List.forall_mem_cons.mpr ⟨dm_getf _ _ _, ?_⟩
  refine List.forall_mem_cons.mpr ⟨dm_const _ _, ?_⟩
  refine List.forall_mem_cons.mpr ⟨trivial, ?_⟩
  refine List.forall_mem_cons.mpr ⟨dm_aload _ _, ?_⟩
  refine List.forall_mem_cons.mpr ⟨dm_getf _ _ _, ?_⟩
  refine List.forall_mem_cons.mpr ⟨dm_const _ _, ?_⟩
  refine List.forall_mem_cons.mpr ⟨dm_const _ _, ?_⟩
  refine List.forall_mem_cons.mpr ⟨trivial, ?_⟩
  refine List.forall_mem_cons.mpr ⟨dm_const _ _, ?_⟩
  refine List.forall_mem_cons.mpr ⟨dm_istore _ _, ?_⟩
  refine List.forall_mem_cons.mpr ⟨dm_iload _ _, ?_⟩
  refine List.forall_mem_cons.mpr ⟨dm_aload _ _, ?_⟩
  refine List.forall_mem_cons.mpr ⟨trivial, ?_⟩
  refine List.forall_mem_cons.mpr ⟨dm_icmp _ _ _, ?_⟩
  refine List.forall_mem_cons.mpr ⟨dm_aload _ _, ?_⟩
  refine List.forall_mem_cons.mpr ⟨dm_iload _ _, ?_⟩
  refine List.forall_mem_cons.mpr ⟨trivial, ?_⟩
  refine List.forall_mem_cons.mpr ⟨dm_istore _ _, ?_⟩
  refine List.forall_mem_cons.mpr ⟨dm_iload _ _, ?_⟩
  refine List.forall_mem_cons.mpr ⟨dm_const _ _, ?_⟩
  refine List.forall_mem_cons.mpr ⟨dm_bin _ _, ?_⟩
  refine List.forall_mem_cons.mpr ⟨dm_istore _ _, ?_⟩
  refine List.forall_mem_cons.mpr ⟨dm_iload _ _, ?_⟩
  refine List.forall_mem_cons.mpr ⟨dm_const _ _, ?_⟩
  refine List.forall_mem_cons.mpr ⟨dm_bin _ _, ?_⟩
  refine List.forall_mem_cons.mpr ⟨dm_if _ _ _, ?_⟩
  refine List.forall_mem_cons.mpr ⟨dm_iinc _ _ _, ?_⟩
  refine List.forall_mem_cons.mpr ⟨dm_aload _ _, ?_⟩
  refine List.forall_mem_cons.mpr ⟨dm_iload _ _, ?_⟩
  refine List.forall_mem_cons.mpr ⟨trivial, ?_⟩
  refine List.forall_mem_cons.mpr ⟨dm_istore _ _, ?_⟩
  refine List.forall_mem_cons.mpr ⟨dm_aload _ _, ?_⟩
  refine List.forall_mem_cons.mpr ⟨dm_iload _ _, ?_⟩
  refine List.forall_mem_cons.mpr ⟨dm_const _ _, ?_⟩
  refine List.forall_mem_cons.mpr ⟨dm_bin _ _, ?_⟩
  refine List.forall_mem_cons.mpr ⟨dm_iload _ _, ?_⟩
  refine List.forall_mem_cons.mpr ⟨trivial, ?_⟩
  refine List.forall_mem_cons.mpr ⟨dm_iinc _ _ _, ?_⟩
  refine List.forall_mem_cons.mpr ⟨dm_goto _, ?_⟩
  refine List.forall_mem_cons.mpr ⟨dm_const _ _, ?_⟩
  refine List.forall_mem_cons.mpr ⟨dm_istore _ _, ?_⟩
  refine List.forall_mem_cons.mpr ⟨dm_iload _ _, ?_⟩
  refine List.forall_mem_cons.mpr ⟨dm_aload _ _, ?_⟩
  refine List.forall_mem_cons.mpr ⟨dm_getf _ _ _, ?_⟩
  refine List.forall_mem_cons.mpr ⟨trivial, ?_⟩
  refine List.forall_mem_cons.mpr ⟨dm_icmp _ _ _, ?_⟩
  refine List.forall_mem_cons.mpr ⟨dm_aload _ _, ?_⟩
  refine List.forall_mem_cons.mpr ⟨dm_getf _ _ _, ?_⟩
  refine List.forall_mem_cons.mpr ⟨dm_iload _ _, ?_⟩
  refine List.forall_mem_cons.mpr ⟨trivial, ?_⟩
  refine List.forall_mem_cons.mpr ⟨dm_const _ _, ?_⟩
  refine List.forall_mem_cons.mpr ⟨dm_icmp _ _ _, ?_⟩
  refine List.forall_mem_cons.mpr ⟨dm_aload _ _, ?_⟩
  refine List.forall_mem_cons.mpr ⟨dm_getf _ _ _, ?_⟩
  refine List.forall_mem_cons.mpr ⟨dm_iload _ _, ?_⟩
  refine List.forall_mem_cons.mpr ⟨dm_aload _ _, ?_⟩
  refine List.forall_mem_cons.mpr ⟨dm_getf _ _ _, ?_⟩
  refine List.forall_mem_cons.mpr ⟨dm_aload _ _, ?_⟩
  refine List.forall_mem_cons.mpr ⟨dm_getf _ _ _, ?_⟩
  refine List.forall_mem_cons.mpr ⟨dm_iload _ _, ?_⟩
  refine List.forall_mem_cons.mpr ⟨trivial, ?_⟩
  refine List.forall_mem_cons.mpr ⟨trivial, ?_⟩
  refine List.forall_mem_cons.mpr ⟨trivial, ?_⟩
  refine List.forall_mem_cons.mpr ⟨dm_iinc _ _ _, ?_⟩
  refine List.forall_mem_cons.mpr ⟨dm_goto _, ?_⟩
  refine List.forall_mem_cons.mpr ⟨trivial, ?_⟩
  exact fun _ h => absurd h List.not_mem_nil
theorem dt_36 : ∀ q ∈ mt_36, dm_E q.2 := by
  refine List.forall_mem_cons.mpr ⟨dm_iload _ _, ?_⟩
  refine List.forall_mem_cons.mpr ⟨dm_if _ _ _, ?_⟩
  refine List.forall_mem_cons.mpr ⟨dm_aload _ _, ?_⟩
  refine List.forall_mem_cons.mpr ⟨dm_getf _ _ _, ?_⟩
  refine List.forall_mem_cons.mpr ⟨dm_iload _ _, ?_⟩
  refine List.forall_mem_cons.mpr ⟨dm_aload _ _, ?_⟩
  refine List.forall_mem_cons.mpr ⟨dm_getf _ _ _, ?_⟩
  refine List.forall_mem_cons.mpr ⟨trivial, ?_⟩
  refine List.forall_mem_cons.mpr ⟨trivial, ?_⟩
  refine List.forall_mem_cons.mpr ⟨dm_goto _, ?_⟩
  refine List.forall_mem_cons.mpr ⟨dm_aload _ _, ?_⟩
  refine List.forall_mem_cons.mpr ⟨dm_getf _ _ _, ?_⟩
  refine List.forall_mem_cons.mpr ⟨dm_iload _ _, ?_⟩
  refine List.forall_mem_cons.mpr ⟨trivial, ?_⟩
  refine List.forall_mem_cons.mpr ⟨dm_aload _ _, ?_⟩
  refine List.forall_mem_cons.mpr ⟨dm_getf _ _ _, ?_⟩
  refine List.forall_mem_cons.mpr ⟨dm_iload _ _, ?_⟩
  refine List.forall_mem_cons.mpr ⟨trivial, ?_⟩
  refine List.forall_mem_cons.mpr ⟨trivial, ?_⟩
  exact fun _ h => absurd h List.not_mem_nil
