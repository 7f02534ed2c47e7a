/-! NO ENTRY FILLS AN EMPTY ADDRESS: the tables (written by wip/gen99a.py) -/
theorem dt_111 : ∀ q ∈ mt_111, dm_E q.2 := by
  refine List.forall_mem_cons.mpr ⟨dm_aload _ _, ?_⟩
  refine List.forall_mem_cons.mpr ⟨dm_getf _ _ _, ?_⟩
  refine List.forall_mem_cons.mpr ⟨dm_iload _ _, ?_⟩
  refine List.forall_mem_cons.mpr ⟨trivial, ?_⟩
  refine List.forall_mem_cons.mpr ⟨dm_istore _ _, ?_⟩
  refine List.forall_mem_cons.mpr ⟨dm_aload _ _, ?_⟩
  refine List.forall_mem_cons.mpr ⟨dm_getf _ _ _, ?_⟩
  refine List.forall_mem_cons.mpr ⟨dm_iload _ _, ?_⟩
  refine List.forall_mem_cons.mpr ⟨dm_iload _ _, ?_⟩
  refine List.forall_mem_cons.mpr ⟨trivial, ?_⟩
  refine List.forall_mem_cons.mpr ⟨dm_iload _ _, ?_⟩
  refine List.forall_mem_cons.mpr ⟨trivial, ?_⟩
  exact fun _ h => absurd h List.not_mem_nil
theorem dt_112 : ∀ q ∈ mt_112, dm_E q.2 := by
  refine List.forall_mem_cons.mpr ⟨dm_aload _ _, ?_⟩
  refine List.forall_mem_cons.mpr ⟨dm_getf _ _ _, ?_⟩
  refine List.forall_mem_cons.mpr ⟨trivial, ?_⟩
  refine List.forall_mem_cons.mpr ⟨dm_aload _ _, ?_⟩
  refine List.forall_mem_cons.mpr ⟨dm_const _ _, ?_⟩
  refine List.forall_mem_cons.mpr ⟨dm_putf _ _ _ _, ?_⟩
  refine List.forall_mem_cons.mpr ⟨trivial, ?_⟩
  exact fun _ h => absurd h List.not_mem_nil
theorem dt_113 : ∀ q ∈ mt_113, dm_E q.2 := by
  refine List.forall_mem_cons.mpr ⟨dm_iload _ _, ?_⟩
  refine List.forall_mem_cons.mpr ⟨dm_const _ _, ?_⟩
  refine List.forall_mem_cons.mpr ⟨dm_icmp _ _ _, ?_⟩
  refine List.forall_mem_cons.mpr ⟨dm_iload _ _, ?_⟩
  refine List.forall_mem_cons.mpr ⟨dm_const _ _, ?_⟩
  refine List.forall_mem_cons.mpr ⟨dm_icmp _ _ _, ?_⟩
  refine List.forall_mem_cons.mpr ⟨dm_const _ _, ?_⟩
  refine List.forall_mem_cons.mpr ⟨dm_goto _, ?_⟩
  refine List.forall_mem_cons.mpr ⟨dm_const _ _, ?_⟩
  refine List.forall_mem_cons.mpr ⟨trivial, ?_⟩
  exact fun _ h => absurd h List.not_mem_nil
theorem dt_114 : ∀ q ∈ mt_114, dm_E q.2 := by
  refine List.forall_mem_cons.mpr ⟨dm_iload _ _, ?_⟩
  refine List.forall_mem_cons.mpr ⟨dm_const _ _, ?_⟩
  refine List.forall_mem_cons.mpr ⟨dm_icmp _ _ _, ?_⟩
  refine List.forall_mem_cons.mpr ⟨dm_iload _ _, ?_⟩
  refine List.forall_mem_cons.mpr ⟨trivial, ?_⟩
  refine List.forall_mem_cons.mpr ⟨dm_if _ _ _, ?_⟩
  refine List.forall_mem_cons.mpr ⟨dm_const _ _, ?_⟩
  refine List.forall_mem_cons.mpr ⟨dm_goto _, ?_⟩
  refine List.forall_mem_cons.mpr ⟨dm_const _ _, ?_⟩
  refine List.forall_mem_cons.mpr ⟨trivial, ?_⟩
  exact fun _ h => absurd h List.not_mem_nil
theorem dt_115 : ∀ q ∈ mt_115, dm_E q.2 := by
  refine List.forall_mem_cons.mpr ⟨dm_iload _ _, ?_⟩
  refine List.forall_mem_cons.mpr ⟨dm_const _ _, ?_⟩
  refine List.forall_mem_cons.mpr ⟨dm_icmp _ _ _, ?_⟩
  refine List.forall_mem_cons.mpr ⟨dm_iload _ _, ?_⟩
  refine List.forall_mem_cons.mpr ⟨dm_const _ _, ?_⟩
  refine List.forall_mem_cons.mpr ⟨dm_icmp _ _ _, ?_⟩
  refine List.forall_mem_cons.mpr ⟨dm_iload _ _, ?_⟩
  refine List.forall_mem_cons.mpr ⟨dm_const _ _, ?_⟩
  refine List.forall_mem_cons.mpr ⟨dm_icmp _ _ _, ?_⟩
  refine List.forall_mem_cons.mpr ⟨dm_const _ _, ?_⟩
  refine List.forall_mem_cons.mpr ⟨dm_goto _, ?_⟩
  refine List.forall_mem_cons.mpr ⟨dm_const _ _, ?_⟩
  refine List.forall_mem_cons.mpr ⟨trivial, ?_⟩
  exact fun _ h => absurd h List.not_mem_nil
theorem dt_116 : ∀ q ∈ mt_116, dm_E q.2 := by
  refine List.forall_mem_cons.mpr ⟨dm_aload _ _, ?_⟩
  refine List.forall_mem_cons.mpr ⟨dm_obj _, ?_⟩
  refine List.forall_mem_cons.mpr ⟨dm_aload _ _, ?_⟩
  refine List.forall_mem_cons.mpr ⟨dm_const _ _, ?_⟩
  refine List.forall_mem_cons.mpr ⟨dm_newa _ _, ?_⟩
  refine List.forall_mem_cons.mpr ⟨dm_putf _ _ _ _, ?_⟩
  refine List.forall_mem_cons.mpr ⟨dm_aload _ _, ?_⟩
  refine List.forall_mem_cons.mpr ⟨dm_const _ _, ?_⟩
  refine List.forall_mem_cons.mpr ⟨dm_newa _ _, ?_⟩
  refine List.forall_mem_cons.mpr ⟨dm_putf _ _ _ _, ?_⟩
  refine List.forall_mem_cons.mpr ⟨dm_aload _ _, ?_⟩
  refine List.forall_mem_cons.mpr ⟨dm_const _ _, ?_⟩
  refine List.forall_mem_cons.mpr ⟨dm_newa _ _, ?_⟩
  refine List.forall_mem_cons.mpr ⟨dm_putf _ _ _ _, ?_⟩
  refine List.forall_mem_cons.mpr ⟨dm_aload _ _, ?_⟩
  refine List.forall_mem_cons.mpr ⟨dm_const _ _, ?_⟩
  refine List.forall_mem_cons.mpr ⟨dm_newa _ _, ?_⟩
  refine List.forall_mem_cons.mpr ⟨dm_putf _ _ _ _, ?_⟩
  refine List.forall_mem_cons.mpr ⟨dm_aload _ _, ?_⟩
  refine List.forall_mem_cons.mpr ⟨dm_const _ _, ?_⟩
  refine List.forall_mem_cons.mpr ⟨dm_newa _ _, ?_⟩
  refine List.forall_mem_cons.mpr ⟨dm_putf _ _ _ _, ?_⟩
  refine List.forall_mem_cons.mpr ⟨dm_aload _ _, ?_⟩
  refine List.forall_mem_cons.mpr ⟨dm_const _ _, ?_⟩
  refine List.forall_mem_cons.mpr ⟨dm_newa _ _, ?_⟩
  refine List.forall_mem_cons.mpr ⟨dm_putf _ _ _ _, ?_⟩
  refine List.forall_mem_cons.mpr ⟨dm_aload _ _, ?_⟩
  refine List.forall_mem_cons.mpr ⟨dm_const _ _, ?_⟩
  refine List.forall_mem_cons.mpr ⟨dm_newa _ _, ?_⟩
  refine List.forall_mem_cons.mpr ⟨dm_putf _ _ _ _, ?_⟩
  refine List.forall_mem_cons.mpr ⟨trivial, ?_⟩
  exact fun _ h => absurd h List.not_mem_nil
theorem dt_117 : ∀ q ∈ mt_117, dm_E q.2 := by
  refine List.forall_mem_cons.mpr ⟨dm_aload _ _, ?_⟩
  refine List.forall_mem_cons.mpr ⟨dm_getf _ _ _, ?_⟩
  refine List.forall_mem_cons.mpr ⟨trivial, ?_⟩
  exact fun _ h => absurd h List.not_mem_nil
theorem dt_118 : ∀ q ∈ mt_118, dm_E q.2 := by
  refine List.forall_mem_cons.mpr ⟨dm_aload _ _, ?_⟩
  refine List.forall_mem_cons.mpr ⟨dm_const _ _, ?_⟩
  refine List.forall_mem_cons.mpr ⟨dm_putf _ _ _ _, ?_⟩
  refine List.forall_mem_cons.mpr ⟨dm_aload _ _, ?_⟩
  refine List.forall_mem_cons.mpr ⟨dm_getf _ _ _, ?_⟩
  refine List.forall_mem_cons.mpr ⟨dm_const _ _, ?_⟩
  refine List.forall_mem_cons.mpr ⟨dm_icmp _ _ _, ?_⟩
  refine List.forall_mem_cons.mpr ⟨dm_const _ _, ?_⟩
  refine List.forall_mem_cons.mpr ⟨trivial, ?_⟩
  refine List.forall_mem_cons.mpr ⟨dm_aload _ _, ?_⟩
  refine List.forall_mem_cons.mpr ⟨dm_getf _ _ _, ?_⟩
  refine List.forall_mem_cons.mpr ⟨dm_aload _ _, ?_⟩
  refine List.forall_mem_cons.mpr ⟨dm_getf _ _ _, ?_⟩
  refine List.forall_mem_cons.mpr ⟨dm_iload _ _, ?_⟩
  refine List.forall_mem_cons.mpr ⟨dm_ast _ _, ?_⟩
  refine List.forall_mem_cons.mpr ⟨dm_aload _ _, ?_⟩
  refine List.forall_mem_cons.mpr ⟨dm_getf _ _ _, ?_⟩
  refine List.forall_mem_cons.mpr ⟨dm_aload _ _, ?_⟩
  refine List.forall_mem_cons.mpr ⟨dm_getf _ _ _, ?_⟩
  refine List.forall_mem_cons.mpr ⟨dm_iload _ _, ?_⟩
  refine List.forall_mem_cons.mpr ⟨dm_ast _ _, ?_⟩
  refine List.forall_mem_cons.mpr ⟨dm_aload _ _, ?_⟩
  refine List.forall_mem_cons.mpr ⟨dm_dup _, ?_⟩
  refine List.forall_mem_cons.mpr ⟨dm_getf _ _ _, ?_⟩
  refine List.forall_mem_cons.mpr ⟨dm_const _ _, ?_⟩
  refine List.forall_mem_cons.mpr ⟨dm_bin _ _, ?_⟩
  refine List.forall_mem_cons.mpr ⟨dm_putf _ _ _ _, ?_⟩
  refine List.forall_mem_cons.mpr ⟨dm_aload _ _, ?_⟩
  refine List.forall_mem_cons.mpr ⟨dm_getf _ _ _, ?_⟩
  refine List.forall_mem_cons.mpr ⟨trivial, ?_⟩
  exact fun _ h => absurd h List.not_mem_nil
theorem dt_119 : ∀ q ∈ mt_119, dm_E q.2 := by
  refine List.forall_mem_cons.mpr ⟨dm_aload _ _, ?_⟩
  refine List.forall_mem_cons.mpr ⟨dm_const _ _, ?_⟩
  refine List.forall_mem_cons.mpr ⟨dm_putf _ _ _ _, ?_⟩
  refine List.forall_mem_cons.mpr ⟨dm_aload _ _, ?_⟩
  refine List.forall_mem_cons.mpr ⟨dm_const _ _, ?_⟩
  refine List.forall_mem_cons.mpr ⟨dm_putf _ _ _ _, ?_⟩
  refine List.forall_mem_cons.mpr ⟨trivial, ?_⟩
  exact fun _ h => absurd h List.not_mem_nil
theorem dt_120 : ∀ q ∈ mt_120, dm_E q.2 := by
  refine List.forall_mem_cons.mpr ⟨dm_iload _ _, ?_⟩
  refine List.forall_mem_cons.mpr ⟨dm_iload _ _, ?_⟩
  refine List.forall_mem_cons.mpr ⟨dm_icmp _ _ _, ?_⟩
  refine List.forall_mem_cons.mpr ⟨dm_iload _ _, ?_⟩
  refine List.forall_mem_cons.mpr ⟨dm_iload _ _, ?_⟩
  refine List.forall_mem_cons.mpr ⟨dm_icmp _ _ _, ?_⟩
  refine List.forall_mem_cons.mpr ⟨dm_const _ _, ?_⟩
  refine List.forall_mem_cons.mpr ⟨dm_goto _, ?_⟩
  refine List.forall_mem_cons.mpr ⟨dm_const _ _, ?_⟩
  refine List.forall_mem_cons.mpr ⟨trivial, ?_⟩
  exact fun _ h => absurd h List.not_mem_nil
theorem dt_121 : ∀ q ∈ mt_121, dm_E q.2 := by
  refine List.forall_mem_cons.mpr ⟨dm_iload _ _, ?_⟩
  refine List.forall_mem_cons.mpr ⟨dm_table _ _ _ _, ?_⟩
  refine List.forall_mem_cons.mpr ⟨dm_iload _ _, ?_⟩
  refine List.forall_mem_cons.mpr ⟨dm_const _ _, ?_⟩
  refine List.forall_mem_cons.mpr ⟨dm_const _ _, ?_⟩
  refine List.forall_mem_cons.mpr ⟨trivial, ?_⟩
  refine List.forall_mem_cons.mpr ⟨trivial, ?_⟩
  refine List.forall_mem_cons.mpr ⟨dm_iload _ _, ?_⟩
  refine List.forall_mem_cons.mpr ⟨dm_const _ _, ?_⟩
  refine List.forall_mem_cons.mpr ⟨dm_const _ _, ?_⟩
  refine List.forall_mem_cons.mpr ⟨trivial, ?_⟩
  refine List.forall_mem_cons.mpr ⟨trivial, ?_⟩
  refine List.forall_mem_cons.mpr ⟨dm_iload _ _, ?_⟩
  refine List.forall_mem_cons.mpr ⟨dm_const _ _, ?_⟩
  refine List.forall_mem_cons.mpr ⟨dm_const _ _, ?_⟩
  refine List.forall_mem_cons.mpr ⟨trivial, ?_⟩
  refine List.forall_mem_cons.mpr ⟨trivial, ?_⟩
  refine List.forall_mem_cons.mpr ⟨dm_iload _ _, ?_⟩
  refine List.forall_mem_cons.mpr ⟨dm_const _ _, ?_⟩
  refine List.forall_mem_cons.mpr ⟨dm_const _ _, ?_⟩
  refine List.forall_mem_cons.mpr ⟨trivial, ?_⟩
  refine List.forall_mem_cons.mpr ⟨trivial, ?_⟩
  refine List.forall_mem_cons.mpr ⟨dm_iload _ _, ?_⟩
  refine List.forall_mem_cons.mpr ⟨dm_const _ _, ?_⟩
  refine List.forall_mem_cons.mpr ⟨dm_const _ _, ?_⟩
  refine List.forall_mem_cons.mpr ⟨trivial, ?_⟩
  refine List.forall_mem_cons.mpr ⟨trivial, ?_⟩
  exact fun _ h => absurd h List.not_mem_nil
theorem dt_122 : ∀ q ∈ mt_122, dm_E q.2 := by
  refine List.forall_mem_cons.mpr ⟨dm_const _ _, ?_⟩
  refine List.forall_mem_cons.mpr ⟨dm_istore _ _, ?_⟩
  refine List.forall_mem_cons.mpr ⟨dm_iload _ _, ?_⟩
  refine List.forall_mem_cons.mpr ⟨dm_aload _ _, ?_⟩
  refine List.forall_mem_cons.mpr ⟨dm_getf _ _ _, ?_⟩
  refine List.forall_mem_cons.mpr ⟨dm_icmp _ _ _, ?_⟩
  refine List.forall_mem_cons.mpr ⟨dm_aload _ _, ?_⟩
  refine List.forall_mem_cons.mpr ⟨dm_getf _ _ _, ?_⟩
  refine List.forall_mem_cons.mpr ⟨dm_iload _ _, ?_⟩
  refine List.forall_mem_cons.mpr ⟨dm_ald _ _, ?_⟩
  refine List.forall_mem_cons.mpr ⟨dm_const _ _, ?_⟩
  refine List.forall_mem_cons.mpr ⟨dm_icmp _ _ _, ?_⟩
  refine List.forall_mem_cons.mpr ⟨dm_aload _ _, ?_⟩
  refine List.forall_mem_cons.mpr ⟨dm_getf _ _ _, ?_⟩
  refine List.forall_mem_cons.mpr ⟨dm_iload _ _, ?_⟩
  refine List.forall_mem_cons.mpr ⟨dm_ald _ _, ?_⟩
  refine List.forall_mem_cons.mpr ⟨dm_iload _ _, ?_⟩
  refine List.forall_mem_cons.mpr ⟨dm_icmp _ _ _, ?_⟩
  refine List.forall_mem_cons.mpr ⟨dm_iload _ _, ?_⟩
  refine List.forall_mem_cons.mpr ⟨trivial, ?_⟩
  refine List.forall_mem_cons.mpr ⟨dm_iinc _ _ _, ?_⟩
  refine List.forall_mem_cons.mpr ⟨dm_goto _, ?_⟩
  refine List.forall_mem_cons.mpr ⟨dm_const _ _, ?_⟩
  refine List.forall_mem_cons.mpr ⟨trivial, ?_⟩
  exact fun _ h => absurd h List.not_mem_nil
theorem dt_123 : ∀ q ∈ mt_123, dm_E q.2 := by
  refine List.forall_mem_cons.mpr ⟨dm_const _ _, ?_⟩
  refine List.forall_mem_cons.mpr ⟨dm_istore _ _, ?_⟩
  refine List.forall_mem_cons.mpr ⟨dm_const _ _, ?_⟩
  refine List.forall_mem_cons.mpr ⟨dm_istore _ _, ?_⟩
  refine List.forall_mem_cons.mpr ⟨dm_iload _ _, ?_⟩
  refine List.forall_mem_cons.mpr ⟨dm_aload _ _, ?_⟩
  refine List.forall_mem_cons.mpr ⟨dm_getf _ _ _, ?_⟩
  refine List.forall_mem_cons.mpr ⟨dm_icmp _ _ _, ?_⟩
  refine List.forall_mem_cons.mpr ⟨dm_aload _ _, ?_⟩
  refine List.forall_mem_cons.mpr ⟨dm_getf _ _ _, ?_⟩
  refine List.forall_mem_cons.mpr ⟨dm_iload _ _, ?_⟩
  refine List.forall_mem_cons.mpr ⟨dm_ald _ _, ?_⟩
  refine List.forall_mem_cons.mpr ⟨dm_istore _ _, ?_⟩
  refine List.forall_mem_cons.mpr ⟨dm_iload _ _, ?_⟩
  refine List.forall_mem_cons.mpr ⟨dm_if _ _ _, ?_⟩
  refine List.forall_mem_cons.mpr ⟨dm_iload _ _, ?_⟩
  refine List.forall_mem_cons.mpr ⟨dm_aload _ _, ?_⟩
  refine List.forall_mem_cons.mpr ⟨dm_getf _ _ _, ?_⟩
  refine List.forall_mem_cons.mpr ⟨dm_iload _ _, ?_⟩
  refine List.forall_mem_cons.mpr ⟨dm_ald _ _, ?_⟩
  refine List.forall_mem_cons.mpr ⟨trivial, ?_⟩
  refine List.forall_mem_cons.mpr ⟨dm_if _ _ _, ?_⟩
  refine List.forall_mem_cons.mpr ⟨dm_const _ _, ?_⟩
  refine List.forall_mem_cons.mpr ⟨dm_goto _, ?_⟩
  refine List.forall_mem_cons.mpr ⟨dm_const _ _, ?_⟩
  refine List.forall_mem_cons.mpr ⟨dm_istore _ _, ?_⟩
  refine List.forall_mem_cons.mpr ⟨dm_iload _ _, ?_⟩
  refine List.forall_mem_cons.mpr ⟨dm_if _ _ _, ?_⟩
  refine List.forall_mem_cons.mpr ⟨dm_iload _ _, ?_⟩
  refine List.forall_mem_cons.mpr ⟨dm_const _ _, ?_⟩
  refine List.forall_mem_cons.mpr ⟨dm_icmp _ _ _, ?_⟩
  refine List.forall_mem_cons.mpr ⟨dm_aload _ _, ?_⟩
  refine List.forall_mem_cons.mpr ⟨dm_aload _ _, ?_⟩
  refine List.forall_mem_cons.mpr ⟨dm_getf _ _ _, ?_⟩
  refine List.forall_mem_cons.mpr ⟨dm_iload _ _, ?_⟩
  refine List.forall_mem_cons.mpr ⟨dm_ald _ _, ?_⟩
  refine List.forall_mem_cons.mpr ⟨trivial, ?_⟩
  refine List.forall_mem_cons.mpr ⟨dm_iload _ _, ?_⟩
  refine List.forall_mem_cons.mpr ⟨dm_icmp _ _ _, ?_⟩
  refine List.forall_mem_cons.mpr ⟨dm_const _ _, ?_⟩
  refine List.forall_mem_cons.mpr ⟨dm_goto _, ?_⟩
  refine List.forall_mem_cons.mpr ⟨dm_const _ _, ?_⟩
  refine List.forall_mem_cons.mpr ⟨dm_istore _ _, ?_⟩
  refine List.forall_mem_cons.mpr ⟨dm_iload _ _, ?_⟩
  refine List.forall_mem_cons.mpr ⟨dm_if _ _ _, ?_⟩
  refine List.forall_mem_cons.mpr ⟨dm_iload _ _, ?_⟩
  refine List.forall_mem_cons.mpr ⟨dm_const _ _, ?_⟩
  refine List.forall_mem_cons.mpr ⟨dm_icmp _ _ _, ?_⟩
  refine List.forall_mem_cons.mpr ⟨dm_iload _ _, ?_⟩
  refine List.forall_mem_cons.mpr ⟨dm_const _ _, ?_⟩
  refine List.forall_mem_cons.mpr ⟨dm_icmp _ _ _, ?_⟩
  refine List.forall_mem_cons.mpr ⟨dm_aload _ _, ?_⟩
  refine List.forall_mem_cons.mpr ⟨dm_aload _ _, ?_⟩
  refine List.forall_mem_cons.mpr ⟨dm_getf _ _ _, ?_⟩
  refine List.forall_mem_cons.mpr ⟨dm_iload _ _, ?_⟩
  refine List.forall_mem_cons.mpr ⟨dm_ald _ _, ?_⟩
  refine List.forall_mem_cons.mpr ⟨trivial, ?_⟩
  refine List.forall_mem_cons.mpr ⟨dm_const _ _, ?_⟩
  refine List.forall_mem_cons.mpr ⟨dm_icmp _ _ _, ?_⟩
  refine List.forall_mem_cons.mpr ⟨dm_const _ _, ?_⟩
  refine List.forall_mem_cons.mpr ⟨dm_goto _, ?_⟩
  refine List.forall_mem_cons.mpr ⟨dm_const _ _, ?_⟩
  refine List.forall_mem_cons.mpr ⟨dm_istore _ _, ?_⟩
  refine List.forall_mem_cons.mpr ⟨dm_iload _ _, ?_⟩
  refine List.forall_mem_cons.mpr ⟨dm_if _ _ _, ?_⟩
  refine List.forall_mem_cons.mpr ⟨dm_iload _ _, ?_⟩
  refine List.forall_mem_cons.mpr ⟨dm_const _ _, ?_⟩
  refine List.forall_mem_cons.mpr ⟨dm_icmp _ _ _, ?_⟩
  refine List.forall_mem_cons.mpr ⟨dm_iload _ _, ?_⟩
  refine List.forall_mem_cons.mpr ⟨dm_const _ _, ?_⟩
  refine List.forall_mem_cons.mpr ⟨dm_bin _ _, ?_⟩
  refine List.forall_mem_cons.mpr ⟨dm_aload _ _, ?_⟩
  refine List.forall_mem_cons.mpr ⟨dm_getf _ _ _, ?_⟩
  refine List.forall_mem_cons.mpr ⟨dm_icmp _ _ _, ?_⟩
  refine List.forall_mem_cons.mpr ⟨dm_aload _ _, ?_⟩
  refine List.forall_mem_cons.mpr ⟨dm_getf _ _ _, ?_⟩
  refine List.forall_mem_cons.mpr ⟨dm_iload _ _, ?_⟩
  refine List.forall_mem_cons.mpr ⟨dm_const _ _, ?_⟩
  refine List.forall_mem_cons.mpr ⟨dm_bin _ _, ?_⟩
  refine List.forall_mem_cons.mpr ⟨dm_ald _ _, ?_⟩
  refine List.forall_mem_cons.mpr ⟨dm_const _ _, ?_⟩
  refine List.forall_mem_cons.mpr ⟨dm_icmp _ _ _, ?_⟩
  refine List.forall_mem_cons.mpr ⟨dm_const _ _, ?_⟩
  refine List.forall_mem_cons.mpr ⟨dm_goto _, ?_⟩
  refine List.forall_mem_cons.mpr ⟨dm_const _ _, ?_⟩
  refine List.forall_mem_cons.mpr ⟨dm_istore _ _, ?_⟩
  refine List.forall_mem_cons.mpr ⟨dm_iinc _ _ _, ?_⟩
  refine List.forall_mem_cons.mpr ⟨dm_goto _, ?_⟩
  refine List.forall_mem_cons.mpr ⟨dm_iload _ _, ?_⟩
  refine List.forall_mem_cons.mpr ⟨trivial, ?_⟩
  exact fun _ h => absurd h List.not_mem_nil
theorem dt_124 : ∀ q ∈ mt_124, dm_E q.2 := by
  refine List.forall_mem_cons.mpr ⟨dm_iload _ _, ?_⟩
  refine List.forall_mem_cons.mpr ⟨dm_table _ _ _ _, ?_⟩
  refine List.forall_mem_cons.mpr ⟨dm_const _ _, ?_⟩
  refine List.forall_mem_cons.mpr ⟨trivial, ?_⟩
  refine List.forall_mem_cons.mpr ⟨dm_const _ _, ?_⟩
  refine List.forall_mem_cons.mpr ⟨trivial, ?_⟩
  refine List.forall_mem_cons.mpr ⟨dm_const _ _, ?_⟩
  refine List.forall_mem_cons.mpr ⟨trivial, ?_⟩
  refine List.forall_mem_cons.mpr ⟨dm_const _ _, ?_⟩
  refine List.forall_mem_cons.mpr ⟨trivial, ?_⟩
  exact fun _ h => absurd h List.not_mem_nil
theorem dt_125 : ∀ q ∈ mt_125, dm_E q.2 := by
  refine List.forall_mem_cons.mpr ⟨dm_iload _ _, ?_⟩
  refine List.forall_mem_cons.mpr ⟨dm_table _ _ _ _, ?_⟩
  refine List.forall_mem_cons.mpr ⟨dm_const _ _, ?_⟩
  refine List.forall_mem_cons.mpr ⟨trivial, ?_⟩
  refine List.forall_mem_cons.mpr ⟨dm_const _ _, ?_⟩
  refine List.forall_mem_cons.mpr ⟨trivial, ?_⟩
  refine List.forall_mem_cons.mpr ⟨dm_const _ _, ?_⟩
  refine List.forall_mem_cons.mpr ⟨trivial, ?_⟩
  refine List.forall_mem_cons.mpr ⟨dm_const _ _, ?_⟩
  refine List.forall_mem_cons.mpr ⟨trivial, ?_⟩
  refine List.forall_mem_cons.mpr ⟨dm_const _ _, ?_⟩
  refine List.forall_mem_cons.mpr ⟨trivial, ?_⟩
  exact fun _ h => absurd h List.not_mem_nil
theorem dt_126 : ∀ q ∈ mt_126, dm_E q.2 := by
  refine List.forall_mem_cons.mpr ⟨dm_aload _ _, ?_⟩
  refine List.forall_mem_cons.mpr ⟨dm_getf _ _ _, ?_⟩
  refine List.forall_mem_cons.mpr ⟨dm_iload _ _, ?_⟩
  refine List.forall_mem_cons.mpr ⟨dm_ald _ _, ?_⟩
  refine List.forall_mem_cons.mpr ⟨dm_istore _ _, ?_⟩
  refine List.forall_mem_cons.mpr ⟨dm_iload _ _, ?_⟩
  refine List.forall_mem_cons.mpr ⟨dm_const _ _, ?_⟩
  refine List.forall_mem_cons.mpr ⟨dm_icmp _ _ _, ?_⟩
  refine List.forall_mem_cons.mpr ⟨dm_iload _ _, ?_⟩
  refine List.forall_mem_cons.mpr ⟨dm_const _ _, ?_⟩
  refine List.forall_mem_cons.mpr ⟨dm_icmp _ _ _, ?_⟩
  refine List.forall_mem_cons.mpr ⟨dm_const _ _, ?_⟩
  refine List.forall_mem_cons.mpr ⟨dm_goto _, ?_⟩
  refine List.forall_mem_cons.mpr ⟨dm_const _ _, ?_⟩
  refine List.forall_mem_cons.mpr ⟨dm_istore _ _, ?_⟩
  refine List.forall_mem_cons.mpr ⟨dm_iload _ _, ?_⟩
  refine List.forall_mem_cons.mpr ⟨dm_if _ _ _, ?_⟩
  refine List.forall_mem_cons.mpr ⟨dm_iload _ _, ?_⟩
  refine List.forall_mem_cons.mpr ⟨dm_if _ _ _, ?_⟩
  refine List.forall_mem_cons.mpr ⟨dm_iload _ _, ?_⟩
  refine List.forall_mem_cons.mpr ⟨dm_const _ _, ?_⟩
  refine List.forall_mem_cons.mpr ⟨dm_icmp _ _ _, ?_⟩
  refine List.forall_mem_cons.mpr ⟨dm_const _ _, ?_⟩
  refine List.forall_mem_cons.mpr ⟨dm_goto _, ?_⟩
  refine List.forall_mem_cons.mpr ⟨dm_iload _ _, ?_⟩
  refine List.forall_mem_cons.mpr ⟨dm_const _ _, ?_⟩
  refine List.forall_mem_cons.mpr ⟨dm_icmp _ _ _, ?_⟩
  refine List.forall_mem_cons.mpr ⟨dm_iload _ _, ?_⟩
  refine List.forall_mem_cons.mpr ⟨dm_const _ _, ?_⟩
  refine List.forall_mem_cons.mpr ⟨dm_bin _ _, ?_⟩
  refine List.forall_mem_cons.mpr ⟨dm_goto _, ?_⟩
  refine List.forall_mem_cons.mpr ⟨dm_iload _ _, ?_⟩
  refine List.forall_mem_cons.mpr ⟨dm_const _ _, ?_⟩
  refine List.forall_mem_cons.mpr ⟨dm_bin _ _, ?_⟩
  refine List.forall_mem_cons.mpr ⟨trivial, ?_⟩
  refine List.forall_mem_cons.mpr ⟨dm_iload _ _, ?_⟩
  refine List.forall_mem_cons.mpr ⟨dm_const _ _, ?_⟩
  refine List.forall_mem_cons.mpr ⟨dm_const _ _, ?_⟩
  refine List.forall_mem_cons.mpr ⟨trivial, ?_⟩
  refine List.forall_mem_cons.mpr ⟨dm_if _ _ _, ?_⟩
  refine List.forall_mem_cons.mpr ⟨dm_aload _ _, ?_⟩
  refine List.forall_mem_cons.mpr ⟨dm_aload _ _, ?_⟩
  refine List.forall_mem_cons.mpr ⟨dm_getf _ _ _, ?_⟩
  refine List.forall_mem_cons.mpr ⟨dm_iload _ _, ?_⟩
  refine List.forall_mem_cons.mpr ⟨dm_ald _ _, ?_⟩
  refine List.forall_mem_cons.mpr ⟨trivial, ?_⟩
  refine List.forall_mem_cons.mpr ⟨dm_goto _, ?_⟩
  refine List.forall_mem_cons.mpr ⟨dm_iload _ _, ?_⟩
  refine List.forall_mem_cons.mpr ⟨dm_const _ _, ?_⟩
  refine List.forall_mem_cons.mpr ⟨dm_icmp _ _ _, ?_⟩
  refine List.forall_mem_cons.mpr ⟨dm_aload _ _, ?_⟩
  refine List.forall_mem_cons.mpr ⟨dm_aload _ _, ?_⟩
  refine List.forall_mem_cons.mpr ⟨dm_getf _ _ _, ?_⟩
  refine List.forall_mem_cons.mpr ⟨dm_iload _ _, ?_⟩
  refine List.forall_mem_cons.mpr ⟨dm_const _ _, ?_⟩
  refine List.forall_mem_cons.mpr ⟨dm_bin _ _, ?_⟩
  refine List.forall_mem_cons.mpr ⟨dm_ald _ _, ?_⟩
  refine List.forall_mem_cons.mpr ⟨trivial, ?_⟩
  refine List.forall_mem_cons.mpr ⟨dm_goto _, ?_⟩
  refine List.forall_mem_cons.mpr ⟨dm_const _ _, ?_⟩
  refine List.forall_mem_cons.mpr ⟨trivial, ?_⟩
  exact fun _ h => absurd h List.not_mem_nil
theorem dt_127 : ∀ q ∈ mt_127, dm_E q.2 := by
  refine List.forall_mem_cons.mpr ⟨dm_iload _ _, ?_⟩
  refine List.forall_mem_cons.mpr ⟨dm_aload _ _, ?_⟩
  refine List.forall_mem_cons.mpr ⟨dm_getf _ _ _, ?_⟩
  refine List.forall_mem_cons.mpr ⟨dm_icmp _ _ _, ?_⟩
  refine List.forall_mem_cons.mpr ⟨dm_iload _ _, ?_⟩
  refine List.forall_mem_cons.mpr ⟨dm_const _ _, ?_⟩
  refine List.forall_mem_cons.mpr ⟨dm_icmp _ _ _, ?_⟩
  refine List.forall_mem_cons.mpr ⟨dm_aload _ _, ?_⟩
  refine List.forall_mem_cons.mpr ⟨dm_getf _ _ _, ?_⟩
  refine List.forall_mem_cons.mpr ⟨dm_iload _ _, ?_⟩
  refine List.forall_mem_cons.mpr ⟨dm_ald _ _, ?_⟩
  refine List.forall_mem_cons.mpr ⟨dm_const _ _, ?_⟩
  refine List.forall_mem_cons.mpr ⟨dm_icmp _ _ _, ?_⟩
  refine List.forall_mem_cons.mpr ⟨dm_aload _ _, ?_⟩
  refine List.forall_mem_cons.mpr ⟨dm_getf _ _ _, ?_⟩
  refine List.forall_mem_cons.mpr ⟨dm_iload _ _, ?_⟩
  refine List.forall_mem_cons.mpr ⟨dm_ald _ _, ?_⟩
  refine List.forall_mem_cons.mpr ⟨dm_iload _ _, ?_⟩
  refine List.forall_mem_cons.mpr ⟨dm_icmp _ _ _, ?_⟩
  refine List.forall_mem_cons.mpr ⟨dm_const _ _, ?_⟩
  refine List.forall_mem_cons.mpr ⟨trivial, ?_⟩
  refine List.forall_mem_cons.mpr ⟨dm_aload _ _, ?_⟩
  refine List.forall_mem_cons.mpr ⟨dm_getf _ _ _, ?_⟩
  refine List.forall_mem_cons.mpr ⟨dm_iload _ _, ?_⟩
  refine List.forall_mem_cons.mpr ⟨dm_iload _ _, ?_⟩
  refine List.forall_mem_cons.mpr ⟨dm_ast _ _, ?_⟩
  refine List.forall_mem_cons.mpr ⟨dm_const _ _, ?_⟩
  refine List.forall_mem_cons.mpr ⟨trivial, ?_⟩
  exact fun _ h => absurd h List.not_mem_nil
theorem dt_128 : ∀ q ∈ mt_128, dm_E q.2 := by
  refine List.forall_mem_cons.mpr ⟨dm_const _ _, ?_⟩
  refine List.forall_mem_cons.mpr ⟨dm_istore _ _, ?_⟩
  refine List.forall_mem_cons.mpr ⟨dm_iload _ _, ?_⟩
  refine List.forall_mem_cons.mpr ⟨dm_aload _ _, ?_⟩
  refine List.forall_mem_cons.mpr ⟨dm_getf _ _ _, ?_⟩
  refine List.forall_mem_cons.mpr ⟨dm_icmp _ _ _, ?_⟩
  refine List.forall_mem_cons.mpr ⟨dm_aload _ _, ?_⟩
  refine List.forall_mem_cons.mpr ⟨dm_getf _ _ _, ?_⟩
  refine List.forall_mem_cons.mpr ⟨dm_iload _ _, ?_⟩
  refine List.forall_mem_cons.mpr ⟨dm_const _ _, ?_⟩
  refine List.forall_mem_cons.mpr ⟨dm_ast _ _, ?_⟩
  refine List.forall_mem_cons.mpr ⟨dm_aload _ _, ?_⟩
  refine List.forall_mem_cons.mpr ⟨dm_getf _ _ _, ?_⟩
  refine List.forall_mem_cons.mpr ⟨dm_iload _ _, ?_⟩
  refine List.forall_mem_cons.mpr ⟨dm_const _ _, ?_⟩
  refine List.forall_mem_cons.mpr ⟨dm_ast _ _, ?_⟩
  refine List.forall_mem_cons.mpr ⟨dm_iinc _ _ _, ?_⟩
  refine List.forall_mem_cons.mpr ⟨dm_goto _, ?_⟩
  refine List.forall_mem_cons.mpr ⟨dm_aload _ _, ?_⟩
  refine List.forall_mem_cons.mpr ⟨dm_getf _ _ _, ?_⟩
  refine List.forall_mem_cons.mpr ⟨dm_const _ _, ?_⟩
  refine List.forall_mem_cons.mpr ⟨dm_const _ _, ?_⟩
  refine List.forall_mem_cons.mpr ⟨dm_ast _ _, ?_⟩
  refine List.forall_mem_cons.mpr ⟨dm_const _ _, ?_⟩
  refine List.forall_mem_cons.mpr ⟨dm_istore _ _, ?_⟩
  refine List.forall_mem_cons.mpr ⟨dm_const _ _, ?_⟩
  refine List.forall_mem_cons.mpr ⟨dm_istore _ _, ?_⟩
  refine List.forall_mem_cons.mpr ⟨dm_iload _ _, ?_⟩
  refine List.forall_mem_cons.mpr ⟨dm_if _ _ _, ?_⟩
  refine List.forall_mem_cons.mpr ⟨dm_iload _ _, ?_⟩
  refine List.forall_mem_cons.mpr ⟨dm_if _ _ _, ?_⟩
  refine List.forall_mem_cons.mpr ⟨dm_const _ _, ?_⟩
  refine List.forall_mem_cons.mpr ⟨dm_istore _ _, ?_⟩
  refine List.forall_mem_cons.mpr ⟨dm_const _ _, ?_⟩
  refine List.forall_mem_cons.mpr ⟨dm_istore _ _, ?_⟩
  refine List.forall_mem_cons.mpr ⟨dm_iload _ _, ?_⟩
  refine List.forall_mem_cons.mpr ⟨dm_aload _ _, ?_⟩
  refine List.forall_mem_cons.mpr ⟨dm_getf _ _ _, ?_⟩
  refine List.forall_mem_cons.mpr ⟨dm_icmp _ _ _, ?_⟩
  refine List.forall_mem_cons.mpr ⟨dm_iload _ _, ?_⟩
  refine List.forall_mem_cons.mpr ⟨dm_if _ _ _, ?_⟩
  refine List.forall_mem_cons.mpr ⟨dm_aload _ _, ?_⟩
  refine List.forall_mem_cons.mpr ⟨dm_getf _ _ _, ?_⟩
  refine List.forall_mem_cons.mpr ⟨dm_iload _ _, ?_⟩
  refine List.forall_mem_cons.mpr ⟨dm_ald _ _, ?_⟩
  refine List.forall_mem_cons.mpr ⟨dm_const _ _, ?_⟩
  refine List.forall_mem_cons.mpr ⟨dm_icmp _ _ _, ?_⟩
  refine List.forall_mem_cons.mpr ⟨dm_aload _ _, ?_⟩
  refine List.forall_mem_cons.mpr ⟨dm_getf _ _ _, ?_⟩
  refine List.forall_mem_cons.mpr ⟨dm_iload _ _, ?_⟩
  refine List.forall_mem_cons.mpr ⟨dm_ald _ _, ?_⟩
  refine List.forall_mem_cons.mpr ⟨dm_if _ _ _, ?_⟩
  refine List.forall_mem_cons.mpr ⟨dm_goto _, ?_⟩
  refine List.forall_mem_cons.mpr ⟨dm_aload _ _, ?_⟩
  refine List.forall_mem_cons.mpr ⟨dm_getf _ _ _, ?_⟩
  refine List.forall_mem_cons.mpr ⟨dm_iload _ _, ?_⟩
  refine List.forall_mem_cons.mpr ⟨dm_const _ _, ?_⟩
  refine List.forall_mem_cons.mpr ⟨dm_ast _ _, ?_⟩
  refine List.forall_mem_cons.mpr ⟨dm_const _ _, ?_⟩
  refine List.forall_mem_cons.mpr ⟨dm_istore _ _, ?_⟩
  refine List.forall_mem_cons.mpr ⟨dm_aload _ _, ?_⟩
  refine List.forall_mem_cons.mpr ⟨dm_getf _ _ _, ?_⟩
  refine List.forall_mem_cons.mpr ⟨dm_iload _ _, ?_⟩
  refine List.forall_mem_cons.mpr ⟨dm_ald _ _, ?_⟩
  refine List.forall_mem_cons.mpr ⟨dm_aload _ _, ?_⟩
  refine List.forall_mem_cons.mpr ⟨dm_getf _ _ _, ?_⟩
  refine List.forall_mem_cons.mpr ⟨dm_iload _ _, ?_⟩
  refine List.forall_mem_cons.mpr ⟨dm_ald _ _, ?_⟩
  refine List.forall_mem_cons.mpr ⟨trivial, ?_⟩
  refine List.forall_mem_cons.mpr ⟨dm_bin _ _, ?_⟩
  refine List.forall_mem_cons.mpr ⟨dm_istore _ _, ?_⟩
  refine List.forall_mem_cons.mpr ⟨dm_aload _ _, ?_⟩
  refine List.forall_mem_cons.mpr ⟨dm_getf _ _ _, ?_⟩
  refine List.forall_mem_cons.mpr ⟨dm_iload _ _, ?_⟩
  refine List.forall_mem_cons.mpr ⟨dm_ald _ _, ?_⟩
  refine List.forall_mem_cons.mpr ⟨dm_aload _ _, ?_⟩
  refine List.forall_mem_cons.mpr ⟨dm_getf _ _ _, ?_⟩
  refine List.forall_mem_cons.mpr ⟨dm_iload _ _, ?_⟩
  refine List.forall_mem_cons.mpr ⟨dm_ald _ _, ?_⟩
  refine List.forall_mem_cons.mpr ⟨trivial, ?_⟩
  refine List.forall_mem_cons.mpr ⟨dm_icmp _ _ _, ?_⟩
  refine List.forall_mem_cons.mpr ⟨dm_const _ _, ?_⟩
  refine List.forall_mem_cons.mpr ⟨dm_goto _, ?_⟩
  refine List.forall_mem_cons.mpr ⟨dm_const _ _, ?_⟩
  refine List.forall_mem_cons.mpr ⟨dm_istore _ _, ?_⟩
  refine List.forall_mem_cons.mpr ⟨dm_iload _ _, ?_⟩
  refine List.forall_mem_cons.mpr ⟨dm_if _ _ _, ?_⟩
  refine List.forall_mem_cons.mpr ⟨dm_aload _ _, ?_⟩
  refine List.forall_mem_cons.mpr ⟨dm_iload _ _, ?_⟩
  refine List.forall_mem_cons.mpr ⟨dm_const _ _, ?_⟩
  refine List.forall_mem_cons.mpr ⟨trivial, ?_⟩
  refine List.forall_mem_cons.mpr ⟨dm_const _ _, ?_⟩
  refine List.forall_mem_cons.mpr ⟨dm_icmp _ _ _, ?_⟩
  refine List.forall_mem_cons.mpr ⟨dm_aload _ _, ?_⟩
  refine List.forall_mem_cons.mpr ⟨dm_aload _ _, ?_⟩
  refine List.forall_mem_cons.mpr ⟨dm_iload _ _, ?_⟩
  refine List.forall_mem_cons.mpr ⟨dm_const _ _, ?_⟩
  refine List.forall_mem_cons.mpr ⟨trivial, ?_⟩
  refine List.forall_mem_cons.mpr ⟨dm_iload _ _, ?_⟩
  refine List.forall_mem_cons.mpr ⟨trivial, ?_⟩
  refine List.forall_mem_cons.mpr ⟨dm_if _ _ _, ?_⟩
  refine List.forall_mem_cons.mpr ⟨dm_const _ _, ?_⟩
  refine List.forall_mem_cons.mpr ⟨dm_goto _, ?_⟩
  refine List.forall_mem_cons.mpr ⟨dm_const _ _, ?_⟩
  refine List.forall_mem_cons.mpr ⟨dm_istore _ _, ?_⟩
  refine List.forall_mem_cons.mpr ⟨dm_iload _ _, ?_⟩
  refine List.forall_mem_cons.mpr ⟨dm_if _ _ _, ?_⟩
  refine List.forall_mem_cons.mpr ⟨dm_aload _ _, ?_⟩
  refine List.forall_mem_cons.mpr ⟨dm_iload _ _, ?_⟩
  refine List.forall_mem_cons.mpr ⟨dm_const _ _, ?_⟩
  refine List.forall_mem_cons.mpr ⟨trivial, ?_⟩
  refine List.forall_mem_cons.mpr ⟨dm_const _ _, ?_⟩
  refine List.forall_mem_cons.mpr ⟨dm_icmp _ _ _, ?_⟩
  refine List.forall_mem_cons.mpr ⟨dm_aload _ _, ?_⟩
  refine List.forall_mem_cons.mpr ⟨dm_aload _ _, ?_⟩
  refine List.forall_mem_cons.mpr ⟨dm_iload _ _, ?_⟩
  refine List.forall_mem_cons.mpr ⟨dm_const _ _, ?_⟩
  refine List.forall_mem_cons.mpr ⟨trivial, ?_⟩
  refine List.forall_mem_cons.mpr ⟨dm_aload _ _, ?_⟩
  refine List.forall_mem_cons.mpr ⟨dm_getf _ _ _, ?_⟩
  refine List.forall_mem_cons.mpr ⟨dm_iload _ _, ?_⟩
  refine List.forall_mem_cons.mpr ⟨dm_ald _ _, ?_⟩
  refine List.forall_mem_cons.mpr ⟨dm_const _ _, ?_⟩
  refine List.forall_mem_cons.mpr ⟨dm_icmp _ _ _, ?_⟩
  refine List.forall_mem_cons.mpr ⟨dm_iload _ _, ?_⟩
  refine List.forall_mem_cons.mpr ⟨dm_const _ _, ?_⟩
  refine List.forall_mem_cons.mpr ⟨dm_bin _ _, ?_⟩
  refine List.forall_mem_cons.mpr ⟨dm_goto _, ?_⟩
  refine List.forall_mem_cons.mpr ⟨dm_iload _ _, ?_⟩
  refine List.forall_mem_cons.mpr ⟨trivial, ?_⟩
  refine List.forall_mem_cons.mpr ⟨dm_if _ _ _, ?_⟩
  refine List.forall_mem_cons.mpr ⟨dm_const _ _, ?_⟩
  refine List.forall_mem_cons.mpr ⟨dm_goto _, ?_⟩
  refine List.forall_mem_cons.mpr ⟨dm_const _ _, ?_⟩
  refine List.forall_mem_cons.mpr ⟨dm_istore _ _, ?_⟩
  refine List.forall_mem_cons.mpr ⟨dm_iinc _ _ _, ?_⟩
  refine List.forall_mem_cons.mpr ⟨dm_goto _, ?_⟩
  refine List.forall_mem_cons.mpr ⟨dm_goto _, ?_⟩
  refine List.forall_mem_cons.mpr ⟨dm_iload _ _, ?_⟩
  refine List.forall_mem_cons.mpr ⟨trivial, ?_⟩
  exact fun _ h => absurd h List.not_mem_nil
theorem dt_129 : ∀ q ∈ mt_129, dm_E q.2 := by
  refine List.forall_mem_cons.mpr ⟨dm_const _ _, ?_⟩
  refine List.forall_mem_cons.mpr ⟨dm_istore _ _, ?_⟩
  refine List.forall_mem_cons.mpr ⟨dm_const _ _, ?_⟩
  refine List.forall_mem_cons.mpr ⟨dm_istore _ _, ?_⟩
  refine List.forall_mem_cons.mpr ⟨dm_iload _ _, ?_⟩
  refine List.forall_mem_cons.mpr ⟨dm_aload _ _, ?_⟩
  refine List.forall_mem_cons.mpr ⟨dm_getf _ _ _, ?_⟩
  refine List.forall_mem_cons.mpr ⟨dm_icmp _ _ _, ?_⟩
  refine List.forall_mem_cons.mpr ⟨dm_aload _ _, ?_⟩
  refine List.forall_mem_cons.mpr ⟨dm_getf _ _ _, ?_⟩
  refine List.forall_mem_cons.mpr ⟨dm_iload _ _, ?_⟩
  refine List.forall_mem_cons.mpr ⟨dm_aload _ _, ?_⟩
  refine List.forall_mem_cons.mpr ⟨dm_getf _ _ _, ?_⟩
  refine List.forall_mem_cons.mpr ⟨dm_iload _ _, ?_⟩
  refine List.forall_mem_cons.mpr ⟨dm_ald _ _, ?_⟩
  refine List.forall_mem_cons.mpr ⟨dm_const _ _, ?_⟩
  refine List.forall_mem_cons.mpr ⟨dm_icmp _ _ _, ?_⟩
  refine List.forall_mem_cons.mpr ⟨dm_aload _ _, ?_⟩
  refine List.forall_mem_cons.mpr ⟨dm_getf _ _ _, ?_⟩
  refine List.forall_mem_cons.mpr ⟨dm_iload _ _, ?_⟩
  refine List.forall_mem_cons.mpr ⟨dm_ald _ _, ?_⟩
  refine List.forall_mem_cons.mpr ⟨dm_const _ _, ?_⟩
  refine List.forall_mem_cons.mpr ⟨dm_icmp _ _ _, ?_⟩
  refine List.forall_mem_cons.mpr ⟨dm_const _ _, ?_⟩
  refine List.forall_mem_cons.mpr ⟨dm_goto _, ?_⟩
  refine List.forall_mem_cons.mpr ⟨dm_const _ _, ?_⟩
  refine List.forall_mem_cons.mpr ⟨dm_ast _ _, ?_⟩
  refine List.forall_mem_cons.mpr ⟨dm_iload _ _, ?_⟩
  refine List.forall_mem_cons.mpr ⟨dm_aload _ _, ?_⟩
  refine List.forall_mem_cons.mpr ⟨dm_getf _ _ _, ?_⟩
  refine List.forall_mem_cons.mpr ⟨dm_iload _ _, ?_⟩
  refine List.forall_mem_cons.mpr ⟨dm_ald _ _, ?_⟩
  refine List.forall_mem_cons.mpr ⟨dm_if _ _ _, ?_⟩
  refine List.forall_mem_cons.mpr ⟨dm_const _ _, ?_⟩
  refine List.forall_mem_cons.mpr ⟨dm_goto _, ?_⟩
  refine List.forall_mem_cons.mpr ⟨dm_const _ _, ?_⟩
  refine List.forall_mem_cons.mpr ⟨dm_bin _ _, ?_⟩
  refine List.forall_mem_cons.mpr ⟨dm_istore _ _, ?_⟩
  refine List.forall_mem_cons.mpr ⟨dm_iinc _ _ _, ?_⟩
  refine List.forall_mem_cons.mpr ⟨dm_goto _, ?_⟩
  refine List.forall_mem_cons.mpr ⟨dm_const _ _, ?_⟩
  refine List.forall_mem_cons.mpr ⟨dm_istore _ _, ?_⟩
  refine List.forall_mem_cons.mpr ⟨dm_iload _ _, ?_⟩
  refine List.forall_mem_cons.mpr ⟨dm_if _ _ _, ?_⟩
  refine List.forall_mem_cons.mpr ⟨dm_const _ _, ?_⟩
  refine List.forall_mem_cons.mpr ⟨dm_istore _ _, ?_⟩
  refine List.forall_mem_cons.mpr ⟨dm_const _ _, ?_⟩
  refine List.forall_mem_cons.mpr ⟨dm_istore _ _, ?_⟩
  refine List.forall_mem_cons.mpr ⟨dm_iload _ _, ?_⟩
  refine List.forall_mem_cons.mpr ⟨dm_aload _ _, ?_⟩
  refine List.forall_mem_cons.mpr ⟨dm_getf _ _ _, ?_⟩
  refine List.forall_mem_cons.mpr ⟨dm_icmp _ _ _, ?_⟩
  refine List.forall_mem_cons.mpr ⟨dm_aload _ _, ?_⟩
  refine List.forall_mem_cons.mpr ⟨dm_getf _ _ _, ?_⟩
  refine List.forall_mem_cons.mpr ⟨dm_iload _ _, ?_⟩
  refine List.forall_mem_cons.mpr ⟨dm_ald _ _, ?_⟩
  refine List.forall_mem_cons.mpr ⟨dm_if _ _ _, ?_⟩
  refine List.forall_mem_cons.mpr ⟨dm_goto _, ?_⟩
  refine List.forall_mem_cons.mpr ⟨dm_aload _ _, ?_⟩
  refine List.forall_mem_cons.mpr ⟨dm_iload _ _, ?_⟩
  refine List.forall_mem_cons.mpr ⟨dm_const _ _, ?_⟩
  refine List.forall_mem_cons.mpr ⟨trivial, ?_⟩
  refine List.forall_mem_cons.mpr ⟨dm_istore _ _, ?_⟩
  refine List.forall_mem_cons.mpr ⟨dm_aload _ _, ?_⟩
  refine List.forall_mem_cons.mpr ⟨dm_iload _ _, ?_⟩
  refine List.forall_mem_cons.mpr ⟨dm_const _ _, ?_⟩
  refine List.forall_mem_cons.mpr ⟨trivial, ?_⟩
  refine List.forall_mem_cons.mpr ⟨dm_istore _ _, ?_⟩
  refine List.forall_mem_cons.mpr ⟨dm_iload _ _, ?_⟩
  refine List.forall_mem_cons.mpr ⟨dm_const _ _, ?_⟩
  refine List.forall_mem_cons.mpr ⟨dm_icmp _ _ _, ?_⟩
  refine List.forall_mem_cons.mpr ⟨dm_aload _ _, ?_⟩
  refine List.forall_mem_cons.mpr ⟨dm_getf _ _ _, ?_⟩
  refine List.forall_mem_cons.mpr ⟨dm_iload _ _, ?_⟩
  refine List.forall_mem_cons.mpr ⟨dm_ald _ _, ?_⟩
  refine List.forall_mem_cons.mpr ⟨dm_if _ _ _, ?_⟩
  refine List.forall_mem_cons.mpr ⟨dm_iload _ _, ?_⟩
  refine List.forall_mem_cons.mpr ⟨dm_const _ _, ?_⟩
  refine List.forall_mem_cons.mpr ⟨dm_icmp _ _ _, ?_⟩
  refine List.forall_mem_cons.mpr ⟨dm_aload _ _, ?_⟩
  refine List.forall_mem_cons.mpr ⟨dm_getf _ _ _, ?_⟩
  refine List.forall_mem_cons.mpr ⟨dm_iload _ _, ?_⟩
  refine List.forall_mem_cons.mpr ⟨dm_ald _ _, ?_⟩
  refine List.forall_mem_cons.mpr ⟨dm_if _ _ _, ?_⟩
  refine List.forall_mem_cons.mpr ⟨dm_aload _ _, ?_⟩
  refine List.forall_mem_cons.mpr ⟨dm_getf _ _ _, ?_⟩
  refine List.forall_mem_cons.mpr ⟨dm_iload _ _, ?_⟩
  refine List.forall_mem_cons.mpr ⟨dm_const _ _, ?_⟩
  refine List.forall_mem_cons.mpr ⟨dm_ast _ _, ?_⟩
  refine List.forall_mem_cons.mpr ⟨dm_iinc _ _ _, ?_⟩
  refine List.forall_mem_cons.mpr ⟨dm_const _ _, ?_⟩
  refine List.forall_mem_cons.mpr ⟨dm_istore _ _, ?_⟩
  refine List.forall_mem_cons.mpr ⟨dm_iinc _ _ _, ?_⟩
  refine List.forall_mem_cons.mpr ⟨dm_goto _, ?_⟩
  refine List.forall_mem_cons.mpr ⟨dm_goto _, ?_⟩
  refine List.forall_mem_cons.mpr ⟨dm_iload _ _, ?_⟩
  refine List.forall_mem_cons.mpr ⟨dm_if _ _ _, ?_⟩
  refine List.forall_mem_cons.mpr ⟨dm_const _ _, ?_⟩
  refine List.forall_mem_cons.mpr ⟨dm_goto _, ?_⟩
  refine List.forall_mem_cons.mpr ⟨dm_const _ _, ?_⟩
  refine List.forall_mem_cons.mpr ⟨trivial, ?_⟩
  exact fun _ h => absurd h List.not_mem_nil
theorem dt_130 : ∀ q ∈ mt_130, dm_E q.2 := by
  refine List.forall_mem_cons.mpr ⟨dm_aload _ _, ?_⟩
  refine List.forall_mem_cons.mpr ⟨dm_const _ _, ?_⟩
  refine List.forall_mem_cons.mpr ⟨dm_putf _ _ _ _, ?_⟩
  refine List.forall_mem_cons.mpr ⟨dm_aload _ _, ?_⟩
  refine List.forall_mem_cons.mpr ⟨dm_getf _ _ _, ?_⟩
  refine List.forall_mem_cons.mpr ⟨dm_if _ _ _, ?_⟩
  refine List.forall_mem_cons.mpr ⟨dm_aload _ _, ?_⟩
  refine List.forall_mem_cons.mpr ⟨trivial, ?_⟩
  refine List.forall_mem_cons.mpr ⟨dm_if _ _ _, ?_⟩
  refine List.forall_mem_cons.mpr ⟨dm_aload _ _, ?_⟩
  refine List.forall_mem_cons.mpr ⟨trivial, ?_⟩
  refine List.forall_mem_cons.mpr ⟨dm_if _ _ _, ?_⟩
  refine List.forall_mem_cons.mpr ⟨dm_aload _ _, ?_⟩
  refine List.forall_mem_cons.mpr ⟨trivial, ?_⟩
  refine List.forall_mem_cons.mpr ⟨dm_if _ _ _, ?_⟩
  refine List.forall_mem_cons.mpr ⟨dm_const _ _, ?_⟩
  refine List.forall_mem_cons.mpr ⟨dm_goto _, ?_⟩
  refine List.forall_mem_cons.mpr ⟨dm_const _ _, ?_⟩
  refine List.forall_mem_cons.mpr ⟨trivial, ?_⟩
  exact fun _ h => absurd h List.not_mem_nil
theorem dt_131 : ∀ q ∈ mt_131, dm_E q.2 := by
  refine List.forall_mem_cons.mpr ⟨dm_aload _ _, ?_⟩
  refine List.forall_mem_cons.mpr ⟨dm_dup _, ?_⟩
  refine List.forall_mem_cons.mpr ⟨dm_getf _ _ _, ?_⟩
  refine List.forall_mem_cons.mpr ⟨dm_const _ _, ?_⟩
  refine List.forall_mem_cons.mpr ⟨dm_bin _ _, ?_⟩
  refine List.forall_mem_cons.mpr ⟨dm_putf _ _ _ _, ?_⟩
  refine List.forall_mem_cons.mpr ⟨dm_aload _ _, ?_⟩
  refine List.forall_mem_cons.mpr ⟨dm_getf _ _ _, ?_⟩
  refine List.forall_mem_cons.mpr ⟨dm_aload _ _, ?_⟩
  refine List.forall_mem_cons.mpr ⟨dm_getf _ _ _, ?_⟩
  refine List.forall_mem_cons.mpr ⟨dm_ald _ _, ?_⟩
  refine List.forall_mem_cons.mpr ⟨trivial, ?_⟩
  exact fun _ h => absurd h List.not_mem_nil
theorem dt_132 : ∀ q ∈ mt_132, dm_E q.2 := by
  refine List.forall_mem_cons.mpr ⟨dm_aload _ _, ?_⟩
  refine List.forall_mem_cons.mpr ⟨dm_getf _ _ _, ?_⟩
  refine List.forall_mem_cons.mpr ⟨dm_aload _ _, ?_⟩
  refine List.forall_mem_cons.mpr ⟨dm_getf _ _ _, ?_⟩
  refine List.forall_mem_cons.mpr ⟨dm_iload _ _, ?_⟩
  refine List.forall_mem_cons.mpr ⟨dm_ast _ _, ?_⟩
  refine List.forall_mem_cons.mpr ⟨dm_aload _ _, ?_⟩
  refine List.forall_mem_cons.mpr ⟨dm_dup _, ?_⟩
  refine List.forall_mem_cons.mpr ⟨dm_getf _ _ _, ?_⟩
  refine List.forall_mem_cons.mpr ⟨dm_const _ _, ?_⟩
  refine List.forall_mem_cons.mpr ⟨dm_bin _ _, ?_⟩
  refine List.forall_mem_cons.mpr ⟨dm_putf _ _ _ _, ?_⟩
  refine List.forall_mem_cons.mpr ⟨trivial, ?_⟩
  exact fun _ h => absurd h List.not_mem_nil
theorem dt_133 : ∀ q ∈ mt_133, dm_E q.2 := by
  refine List.forall_mem_cons.mpr ⟨dm_iload _ _, ?_⟩
  refine List.forall_mem_cons.mpr ⟨dm_if _ _ _, ?_⟩
  refine List.forall_mem_cons.mpr ⟨dm_iload _ _, ?_⟩
  refine List.forall_mem_cons.mpr ⟨dm_const _ _, ?_⟩
  refine List.forall_mem_cons.mpr ⟨dm_icmp _ _ _, ?_⟩
  refine List.forall_mem_cons.mpr ⟨dm_const _ _, ?_⟩
  refine List.forall_mem_cons.mpr ⟨dm_goto _, ?_⟩
  refine List.forall_mem_cons.mpr ⟨dm_const _ _, ?_⟩
  refine List.forall_mem_cons.mpr ⟨dm_istore _ _, ?_⟩
  refine List.forall_mem_cons.mpr ⟨dm_iload _ _, ?_⟩
  refine List.forall_mem_cons.mpr ⟨dm_table _ _ _ _, ?_⟩
  refine List.forall_mem_cons.mpr ⟨dm_iload _ _, ?_⟩
  refine List.forall_mem_cons.mpr ⟨dm_iload _ _, ?_⟩
  refine List.forall_mem_cons.mpr ⟨dm_bin _ _, ?_⟩
  refine List.forall_mem_cons.mpr ⟨trivial, ?_⟩
  refine List.forall_mem_cons.mpr ⟨dm_iload _ _, ?_⟩
  refine List.forall_mem_cons.mpr ⟨dm_iload _ _, ?_⟩
  refine List.forall_mem_cons.mpr ⟨dm_bin _ _, ?_⟩
  refine List.forall_mem_cons.mpr ⟨trivial, ?_⟩
  refine List.forall_mem_cons.mpr ⟨dm_iload _ _, ?_⟩
  refine List.forall_mem_cons.mpr ⟨dm_iload _ _, ?_⟩
  refine List.forall_mem_cons.mpr ⟨dm_bin _ _, ?_⟩
  refine List.forall_mem_cons.mpr ⟨trivial, ?_⟩
  refine List.forall_mem_cons.mpr ⟨dm_iload _ _, ?_⟩
  refine List.forall_mem_cons.mpr ⟨dm_const _ _, ?_⟩
  refine List.forall_mem_cons.mpr ⟨dm_icmp _ _ _, ?_⟩
  refine List.forall_mem_cons.mpr ⟨dm_iload _ _, ?_⟩
  refine List.forall_mem_cons.mpr ⟨dm_ineg _, ?_⟩
  refine List.forall_mem_cons.mpr ⟨dm_goto _, ?_⟩
  refine List.forall_mem_cons.mpr ⟨dm_iload _ _, ?_⟩
  refine List.forall_mem_cons.mpr ⟨dm_iload _ _, ?_⟩
  refine List.forall_mem_cons.mpr ⟨dm_div _ _, ?_⟩
  refine List.forall_mem_cons.mpr ⟨trivial, ?_⟩
  refine List.forall_mem_cons.mpr ⟨dm_iload _ _, ?_⟩
  refine List.forall_mem_cons.mpr ⟨dm_const _ _, ?_⟩
  refine List.forall_mem_cons.mpr ⟨dm_icmp _ _ _, ?_⟩
  refine List.forall_mem_cons.mpr ⟨dm_const _ _, ?_⟩
  refine List.forall_mem_cons.mpr ⟨dm_goto _, ?_⟩
  refine List.forall_mem_cons.mpr ⟨dm_iload _ _, ?_⟩
  refine List.forall_mem_cons.mpr ⟨dm_iload _ _, ?_⟩
  refine List.forall_mem_cons.mpr ⟨dm_div _ _, ?_⟩
  refine List.forall_mem_cons.mpr ⟨trivial, ?_⟩
  refine List.forall_mem_cons.mpr ⟨dm_iload _ _, ?_⟩
  refine List.forall_mem_cons.mpr ⟨dm_iload _ _, ?_⟩
  refine List.forall_mem_cons.mpr ⟨dm_bin _ _, ?_⟩
  refine List.forall_mem_cons.mpr ⟨trivial, ?_⟩
  refine List.forall_mem_cons.mpr ⟨dm_iload _ _, ?_⟩
  refine List.forall_mem_cons.mpr ⟨dm_iload _ _, ?_⟩
  refine List.forall_mem_cons.mpr ⟨dm_bin _ _, ?_⟩
  refine List.forall_mem_cons.mpr ⟨trivial, ?_⟩
  refine List.forall_mem_cons.mpr ⟨dm_iload _ _, ?_⟩
  refine List.forall_mem_cons.mpr ⟨dm_iload _ _, ?_⟩
  refine List.forall_mem_cons.mpr ⟨dm_bin _ _, ?_⟩
  refine List.forall_mem_cons.mpr ⟨dm_const _ _, ?_⟩
  refine List.forall_mem_cons.mpr ⟨dm_bin _ _, ?_⟩
  refine List.forall_mem_cons.mpr ⟨trivial, ?_⟩
  refine List.forall_mem_cons.mpr ⟨dm_iload _ _, ?_⟩
  refine List.forall_mem_cons.mpr ⟨dm_iload _ _, ?_⟩
  refine List.forall_mem_cons.mpr ⟨dm_bin _ _, ?_⟩
  refine List.forall_mem_cons.mpr ⟨trivial, ?_⟩
  refine List.forall_mem_cons.mpr ⟨dm_iload _ _, ?_⟩
  refine List.forall_mem_cons.mpr ⟨dm_if _ _ _, ?_⟩
  refine List.forall_mem_cons.mpr ⟨dm_const _ _, ?_⟩
  refine List.forall_mem_cons.mpr ⟨dm_goto _, ?_⟩
  refine List.forall_mem_cons.mpr ⟨dm_iload _ _, ?_⟩
  refine List.forall_mem_cons.mpr ⟨dm_iload _ _, ?_⟩
  refine List.forall_mem_cons.mpr ⟨dm_bin _ _, ?_⟩
  refine List.forall_mem_cons.mpr ⟨trivial, ?_⟩
  refine List.forall_mem_cons.mpr ⟨dm_iload _ _, ?_⟩
  refine List.forall_mem_cons.mpr ⟨dm_if _ _ _, ?_⟩
  refine List.forall_mem_cons.mpr ⟨dm_const _ _, ?_⟩
  refine List.forall_mem_cons.mpr ⟨dm_goto _, ?_⟩
  refine List.forall_mem_cons.mpr ⟨dm_iload _ _, ?_⟩
  refine List.forall_mem_cons.mpr ⟨dm_iload _ _, ?_⟩
  refine List.forall_mem_cons.mpr ⟨dm_bin _ _, ?_⟩
  refine List.forall_mem_cons.mpr ⟨trivial, ?_⟩
  exact fun _ h => absurd h List.not_mem_nil
theorem dt_134 : ∀ q ∈ mt_134, dm_E q.2 := by
  refine List.forall_mem_cons.mpr ⟨dm_iload _ _, ?_⟩
  refine List.forall_mem_cons.mpr ⟨dm_table _ _ _ _, ?_⟩
  refine List.forall_mem_cons.mpr ⟨dm_iload _ _, ?_⟩
  refine List.forall_mem_cons.mpr ⟨dm_iload _ _, ?_⟩
  refine List.forall_mem_cons.mpr ⟨dm_icmp _ _ _, ?_⟩
  refine List.forall_mem_cons.mpr ⟨dm_const _ _, ?_⟩
  refine List.forall_mem_cons.mpr ⟨dm_goto _, ?_⟩
  refine List.forall_mem_cons.mpr ⟨dm_const _ _, ?_⟩
  refine List.forall_mem_cons.mpr ⟨trivial, ?_⟩
  refine List.forall_mem_cons.mpr ⟨dm_iload _ _, ?_⟩
  refine List.forall_mem_cons.mpr ⟨dm_iload _ _, ?_⟩
  refine List.forall_mem_cons.mpr ⟨dm_icmp _ _ _, ?_⟩
  refine List.forall_mem_cons.mpr ⟨dm_const _ _, ?_⟩
  refine List.forall_mem_cons.mpr ⟨dm_goto _, ?_⟩
  refine List.forall_mem_cons.mpr ⟨dm_const _ _, ?_⟩
  refine List.forall_mem_cons.mpr ⟨trivial, ?_⟩
  refine List.forall_mem_cons.mpr ⟨dm_iload _ _, ?_⟩
  refine List.forall_mem_cons.mpr ⟨dm_iload _ _, ?_⟩
  refine List.forall_mem_cons.mpr ⟨dm_icmp _ _ _, ?_⟩
  refine List.forall_mem_cons.mpr ⟨dm_const _ _, ?_⟩
  refine List.forall_mem_cons.mpr ⟨dm_goto _, ?_⟩
  refine List.forall_mem_cons.mpr ⟨dm_const _ _, ?_⟩
  refine List.forall_mem_cons.mpr ⟨trivial, ?_⟩
  refine List.forall_mem_cons.mpr ⟨dm_iload _ _, ?_⟩
  refine List.forall_mem_cons.mpr ⟨dm_iload _ _, ?_⟩
  refine List.forall_mem_cons.mpr ⟨dm_icmp _ _ _, ?_⟩
  refine List.forall_mem_cons.mpr ⟨dm_const _ _, ?_⟩
  refine List.forall_mem_cons.mpr ⟨dm_goto _, ?_⟩
  refine List.forall_mem_cons.mpr ⟨dm_const _ _, ?_⟩
  refine List.forall_mem_cons.mpr ⟨trivial, ?_⟩
  refine List.forall_mem_cons.mpr ⟨dm_iload _ _, ?_⟩
  refine List.forall_mem_cons.mpr ⟨dm_iload _ _, ?_⟩
  refine List.forall_mem_cons.mpr ⟨dm_icmp _ _ _, ?_⟩
  refine List.forall_mem_cons.mpr ⟨dm_const _ _, ?_⟩
  refine List.forall_mem_cons.mpr ⟨dm_goto _, ?_⟩
  refine List.forall_mem_cons.mpr ⟨dm_const _ _, ?_⟩
  refine List.forall_mem_cons.mpr ⟨trivial, ?_⟩
  refine List.forall_mem_cons.mpr ⟨dm_iload _ _, ?_⟩
  refine List.forall_mem_cons.mpr ⟨dm_iload _ _, ?_⟩
  refine List.forall_mem_cons.mpr ⟨dm_icmp _ _ _, ?_⟩
  refine List.forall_mem_cons.mpr ⟨dm_const _ _, ?_⟩
  refine List.forall_mem_cons.mpr ⟨dm_goto _, ?_⟩
  refine List.forall_mem_cons.mpr ⟨dm_const _ _, ?_⟩
  refine List.forall_mem_cons.mpr ⟨trivial, ?_⟩
  exact fun _ h => absurd h List.not_mem_nil
theorem dt_135 : ∀ q ∈ mt_135, dm_E q.2 := by
  refine List.forall_mem_cons.mpr ⟨dm_iload _ _, ?_⟩
  refine List.forall_mem_cons.mpr ⟨dm_i2l _, ?_⟩
  refine List.forall_mem_cons.mpr ⟨dm_iload _ _, ?_⟩
  refine List.forall_mem_cons.mpr ⟨dm_const _ _, ?_⟩
  refine List.forall_mem_cons.mpr ⟨dm_bin _ _, ?_⟩
  refine List.forall_mem_cons.mpr ⟨dm_i2l _, ?_⟩
  refine List.forall_mem_cons.mpr ⟨dm_ladd _, ?_⟩
  refine List.forall_mem_cons.mpr ⟨dm_lstore _ _, ?_⟩
  refine List.forall_mem_cons.mpr ⟨dm_lload _ _, ?_⟩
  refine List.forall_mem_cons.mpr ⟨dm_const _ _, ?_⟩
  refine List.forall_mem_cons.mpr ⟨dm_lcmp _, ?_⟩
  refine List.forall_mem_cons.mpr ⟨dm_if _ _ _, ?_⟩
  refine List.forall_mem_cons.mpr ⟨dm_lload _ _, ?_⟩
  refine List.forall_mem_cons.mpr ⟨dm_const _ _, ?_⟩
  refine List.forall_mem_cons.mpr ⟨dm_lcmp _, ?_⟩
  refine List.forall_mem_cons.mpr ⟨dm_if _ _ _, ?_⟩
  refine List.forall_mem_cons.mpr ⟨dm_const _ _, ?_⟩
  refine List.forall_mem_cons.mpr ⟨dm_goto _, ?_⟩
  refine List.forall_mem_cons.mpr ⟨dm_lload _ _, ?_⟩
  refine List.forall_mem_cons.mpr ⟨dm_l2i _, ?_⟩
  refine List.forall_mem_cons.mpr ⟨trivial, ?_⟩
  exact fun _ h => absurd h List.not_mem_nil
theorem dt_136 : ∀ q ∈ mt_136, dm_E q.2 := by
  refine List.forall_mem_cons.mpr ⟨dm_iload _ _, ?_⟩
  refine List.forall_mem_cons.mpr ⟨dm_table _ _ _ _, ?_⟩
  refine List.forall_mem_cons.mpr ⟨dm_aload _ _, ?_⟩
  refine List.forall_mem_cons.mpr ⟨dm_iload _ _, ?_⟩
  refine List.forall_mem_cons.mpr ⟨trivial, ?_⟩
  refine List.forall_mem_cons.mpr ⟨dm_const _ _, ?_⟩
  refine List.forall_mem_cons.mpr ⟨trivial, ?_⟩
  refine List.forall_mem_cons.mpr ⟨dm_aload _ _, ?_⟩
  refine List.forall_mem_cons.mpr ⟨dm_aload _ _, ?_⟩
  refine List.forall_mem_cons.mpr ⟨dm_getf _ _ _, ?_⟩
  refine List.forall_mem_cons.mpr ⟨dm_iload _ _, ?_⟩
  refine List.forall_mem_cons.mpr ⟨dm_ald _ _, ?_⟩
  refine List.forall_mem_cons.mpr ⟨trivial, ?_⟩
  refine List.forall_mem_cons.mpr ⟨dm_const _ _, ?_⟩
  refine List.forall_mem_cons.mpr ⟨trivial, ?_⟩
  refine List.forall_mem_cons.mpr ⟨dm_aload _ _, ?_⟩
  refine List.forall_mem_cons.mpr ⟨dm_getf _ _ _, ?_⟩
  refine List.forall_mem_cons.mpr ⟨dm_iload _ _, ?_⟩
  refine List.forall_mem_cons.mpr ⟨dm_aload _ _, ?_⟩
  refine List.forall_mem_cons.mpr ⟨trivial, ?_⟩
  refine List.forall_mem_cons.mpr ⟨dm_ast _ _, ?_⟩
  refine List.forall_mem_cons.mpr ⟨dm_const _ _, ?_⟩
  refine List.forall_mem_cons.mpr ⟨trivial, ?_⟩
  refine List.forall_mem_cons.mpr ⟨dm_aload _ _, ?_⟩
  refine List.forall_mem_cons.mpr ⟨trivial, ?_⟩
  refine List.forall_mem_cons.mpr ⟨dm_istore _ _, ?_⟩
  refine List.forall_mem_cons.mpr ⟨dm_aload _ _, ?_⟩
  refine List.forall_mem_cons.mpr ⟨dm_iload _ _, ?_⟩
  refine List.forall_mem_cons.mpr ⟨dm_const _ _, ?_⟩
  refine List.forall_mem_cons.mpr ⟨dm_const _ _, ?_⟩
  refine List.forall_mem_cons.mpr ⟨trivial, ?_⟩
  refine List.forall_mem_cons.mpr ⟨dm_if _ _ _, ?_⟩
  refine List.forall_mem_cons.mpr ⟨dm_aload _ _, ?_⟩
  refine List.forall_mem_cons.mpr ⟨dm_getf _ _ _, ?_⟩
  refine List.forall_mem_cons.mpr ⟨dm_iload _ _, ?_⟩
  refine List.forall_mem_cons.mpr ⟨dm_ald _ _, ?_⟩
  refine List.forall_mem_cons.mpr ⟨dm_goto _, ?_⟩
  refine List.forall_mem_cons.mpr ⟨dm_const _ _, ?_⟩
  refine List.forall_mem_cons.mpr ⟨trivial, ?_⟩
  refine List.forall_mem_cons.mpr ⟨dm_iload _ _, ?_⟩
  refine List.forall_mem_cons.mpr ⟨dm_const _ _, ?_⟩
  refine List.forall_mem_cons.mpr ⟨dm_const _ _, ?_⟩
  refine List.forall_mem_cons.mpr ⟨trivial, ?_⟩
  refine List.forall_mem_cons.mpr ⟨dm_if _ _ _, ?_⟩
  refine List.forall_mem_cons.mpr ⟨dm_const _ _, ?_⟩
  refine List.forall_mem_cons.mpr ⟨dm_goto _, ?_⟩
  refine List.forall_mem_cons.mpr ⟨dm_const _ _, ?_⟩
  refine List.forall_mem_cons.mpr ⟨trivial, ?_⟩
  refine List.forall_mem_cons.mpr ⟨dm_aload _ _, ?_⟩
  refine List.forall_mem_cons.mpr ⟨trivial, ?_⟩
  refine List.forall_mem_cons.mpr ⟨dm_istore _ _, ?_⟩
  refine List.forall_mem_cons.mpr ⟨dm_aload _ _, ?_⟩
  refine List.forall_mem_cons.mpr ⟨trivial, ?_⟩
  refine List.forall_mem_cons.mpr ⟨dm_istore _ _, ?_⟩
  refine List.forall_mem_cons.mpr ⟨dm_iload _ _, ?_⟩
  refine List.forall_mem_cons.mpr ⟨dm_const _ _, ?_⟩
  refine List.forall_mem_cons.mpr ⟨dm_const _ _, ?_⟩
  refine List.forall_mem_cons.mpr ⟨trivial, ?_⟩
  refine List.forall_mem_cons.mpr ⟨dm_if _ _ _, ?_⟩
  refine List.forall_mem_cons.mpr ⟨dm_const _ _, ?_⟩
  refine List.forall_mem_cons.mpr ⟨trivial, ?_⟩
  refine List.forall_mem_cons.mpr ⟨dm_aload _ _, ?_⟩
  refine List.forall_mem_cons.mpr ⟨dm_getf _ _ _, ?_⟩
  refine List.forall_mem_cons.mpr ⟨dm_iload _ _, ?_⟩
  refine List.forall_mem_cons.mpr ⟨dm_iload _ _, ?_⟩
  refine List.forall_mem_cons.mpr ⟨dm_ast _ _, ?_⟩
  refine List.forall_mem_cons.mpr ⟨dm_const _ _, ?_⟩
  refine List.forall_mem_cons.mpr ⟨trivial, ?_⟩
  refine List.forall_mem_cons.mpr ⟨dm_aload _ _, ?_⟩
  refine List.forall_mem_cons.mpr ⟨dm_aload _ _, ?_⟩
  refine List.forall_mem_cons.mpr ⟨trivial, ?_⟩
  refine List.forall_mem_cons.mpr ⟨dm_ineg _, ?_⟩
  refine List.forall_mem_cons.mpr ⟨trivial, ?_⟩
  refine List.forall_mem_cons.mpr ⟨dm_const _ _, ?_⟩
  refine List.forall_mem_cons.mpr ⟨trivial, ?_⟩
  refine List.forall_mem_cons.mpr ⟨dm_aload _ _, ?_⟩
  refine List.forall_mem_cons.mpr ⟨dm_aload _ _, ?_⟩
  refine List.forall_mem_cons.mpr ⟨trivial, ?_⟩
  refine List.forall_mem_cons.mpr ⟨dm_const _ _, ?_⟩
  refine List.forall_mem_cons.mpr ⟨dm_bin _ _, ?_⟩
  refine List.forall_mem_cons.mpr ⟨trivial, ?_⟩
  refine List.forall_mem_cons.mpr ⟨dm_const _ _, ?_⟩
  refine List.forall_mem_cons.mpr ⟨trivial, ?_⟩
  refine List.forall_mem_cons.mpr ⟨dm_aload _ _, ?_⟩
  refine List.forall_mem_cons.mpr ⟨trivial, ?_⟩
  refine List.forall_mem_cons.mpr ⟨dm_istore _ _, ?_⟩
  refine List.forall_mem_cons.mpr ⟨dm_aload _ _, ?_⟩
  refine List.forall_mem_cons.mpr ⟨trivial, ?_⟩
  refine List.forall_mem_cons.mpr ⟨dm_istore _ _, ?_⟩
  refine List.forall_mem_cons.mpr ⟨dm_iload _ _, ?_⟩
  refine List.forall_mem_cons.mpr ⟨dm_const _ _, ?_⟩
  refine List.forall_mem_cons.mpr ⟨dm_icmp _ _ _, ?_⟩
  refine List.forall_mem_cons.mpr ⟨dm_iload _ _, ?_⟩
  refine List.forall_mem_cons.mpr ⟨dm_const _ _, ?_⟩
  refine List.forall_mem_cons.mpr ⟨dm_icmp _ _ _, ?_⟩
  refine List.forall_mem_cons.mpr ⟨dm_iload _ _, ?_⟩
  refine List.forall_mem_cons.mpr ⟨dm_if _ _ _, ?_⟩
  refine List.forall_mem_cons.mpr ⟨dm_const _ _, ?_⟩
  refine List.forall_mem_cons.mpr ⟨trivial, ?_⟩
  refine List.forall_mem_cons.mpr ⟨dm_aload _ _, ?_⟩
  refine List.forall_mem_cons.mpr ⟨dm_iload _ _, ?_⟩
  refine List.forall_mem_cons.mpr ⟨dm_iload _ _, ?_⟩
  refine List.forall_mem_cons.mpr ⟨dm_iload _ _, ?_⟩
  refine List.forall_mem_cons.mpr ⟨trivial, ?_⟩
  refine List.forall_mem_cons.mpr ⟨trivial, ?_⟩
  refine List.forall_mem_cons.mpr ⟨dm_const _ _, ?_⟩
  refine List.forall_mem_cons.mpr ⟨trivial, ?_⟩
  refine List.forall_mem_cons.mpr ⟨dm_aload _ _, ?_⟩
  refine List.forall_mem_cons.mpr ⟨trivial, ?_⟩
  refine List.forall_mem_cons.mpr ⟨dm_istore _ _, ?_⟩
  refine List.forall_mem_cons.mpr ⟨dm_aload _ _, ?_⟩
  refine List.forall_mem_cons.mpr ⟨trivial, ?_⟩
  refine List.forall_mem_cons.mpr ⟨dm_istore _ _, ?_⟩
  refine List.forall_mem_cons.mpr ⟨dm_aload _ _, ?_⟩
  refine List.forall_mem_cons.mpr ⟨dm_iload _ _, ?_⟩
  refine List.forall_mem_cons.mpr ⟨dm_iload _ _, ?_⟩
  refine List.forall_mem_cons.mpr ⟨dm_iload _ _, ?_⟩
  refine List.forall_mem_cons.mpr ⟨trivial, ?_⟩
  refine List.forall_mem_cons.mpr ⟨dm_if _ _ _, ?_⟩
  refine List.forall_mem_cons.mpr ⟨dm_const _ _, ?_⟩
  refine List.forall_mem_cons.mpr ⟨dm_goto _, ?_⟩
  refine List.forall_mem_cons.mpr ⟨dm_const _ _, ?_⟩
  refine List.forall_mem_cons.mpr ⟨trivial, ?_⟩
  refine List.forall_mem_cons.mpr ⟨dm_const _ _, ?_⟩
  refine List.forall_mem_cons.mpr ⟨trivial, ?_⟩
  refine List.forall_mem_cons.mpr ⟨dm_aload _ _, ?_⟩
  refine List.forall_mem_cons.mpr ⟨trivial, ?_⟩
  refine List.forall_mem_cons.mpr ⟨dm_istore _ _, ?_⟩
  refine List.forall_mem_cons.mpr ⟨dm_aload _ _, ?_⟩
  refine List.forall_mem_cons.mpr ⟨trivial, ?_⟩
  refine List.forall_mem_cons.mpr ⟨dm_istore _ _, ?_⟩
  refine List.forall_mem_cons.mpr ⟨dm_aload _ _, ?_⟩
  refine List.forall_mem_cons.mpr ⟨dm_iload _ _, ?_⟩
  refine List.forall_mem_cons.mpr ⟨trivial, ?_⟩
  refine List.forall_mem_cons.mpr ⟨dm_aload _ _, ?_⟩
  refine List.forall_mem_cons.mpr ⟨dm_iload _ _, ?_⟩
  refine List.forall_mem_cons.mpr ⟨dm_iload _ _, ?_⟩
  refine List.forall_mem_cons.mpr ⟨dm_iload _ _, ?_⟩
  refine List.forall_mem_cons.mpr ⟨trivial, ?_⟩
  refine List.forall_mem_cons.mpr ⟨dm_if _ _ _, ?_⟩
  refine List.forall_mem_cons.mpr ⟨dm_const _ _, ?_⟩
  refine List.forall_mem_cons.mpr ⟨dm_goto _, ?_⟩
  refine List.forall_mem_cons.mpr ⟨dm_const _ _, ?_⟩
  refine List.forall_mem_cons.mpr ⟨trivial, ?_⟩
  refine List.forall_mem_cons.mpr ⟨dm_const _ _, ?_⟩
  refine List.forall_mem_cons.mpr ⟨trivial, ?_⟩
  refine List.forall_mem_cons.mpr ⟨dm_aload _ _, ?_⟩
  refine List.forall_mem_cons.mpr ⟨trivial, ?_⟩
  refine List.forall_mem_cons.mpr ⟨dm_pop _, ?_⟩
  refine List.forall_mem_cons.mpr ⟨dm_const _ _, ?_⟩
  refine List.forall_mem_cons.mpr ⟨trivial, ?_⟩
  refine List.forall_mem_cons.mpr ⟨dm_aload _ _, ?_⟩
  refine List.forall_mem_cons.mpr ⟨trivial, ?_⟩
  refine List.forall_mem_cons.mpr ⟨dm_istore _ _, ?_⟩
  refine List.forall_mem_cons.mpr ⟨dm_aload _ _, ?_⟩
  refine List.forall_mem_cons.mpr ⟨trivial, ?_⟩
  refine List.forall_mem_cons.mpr ⟨dm_istore _ _, ?_⟩
  refine List.forall_mem_cons.mpr ⟨dm_iload _ _, ?_⟩
  refine List.forall_mem_cons.mpr ⟨dm_iload _ _, ?_⟩
  refine List.forall_mem_cons.mpr ⟨trivial, ?_⟩
  refine List.forall_mem_cons.mpr ⟨dm_istore _ _, ?_⟩
  refine List.forall_mem_cons.mpr ⟨dm_aload _ _, ?_⟩
  refine List.forall_mem_cons.mpr ⟨dm_iload _ _, ?_⟩
  refine List.forall_mem_cons.mpr ⟨dm_const _ _, ?_⟩
  refine List.forall_mem_cons.mpr ⟨dm_icmp _ _ _, ?_⟩
  refine List.forall_mem_cons.mpr ⟨dm_const _ _, ?_⟩
  refine List.forall_mem_cons.mpr ⟨dm_goto _, ?_⟩
  refine List.forall_mem_cons.mpr ⟨dm_aload _ _, ?_⟩
  refine List.forall_mem_cons.mpr ⟨dm_getf _ _ _, ?_⟩
  refine List.forall_mem_cons.mpr ⟨dm_iload _ _, ?_⟩
  refine List.forall_mem_cons.mpr ⟨dm_ald _ _, ?_⟩
  refine List.forall_mem_cons.mpr ⟨dm_const _ _, ?_⟩
  refine List.forall_mem_cons.mpr ⟨dm_iload _ _, ?_⟩
  refine List.forall_mem_cons.mpr ⟨dm_const _ _, ?_⟩
  refine List.forall_mem_cons.mpr ⟨dm_bin _ _, ?_⟩
  refine List.forall_mem_cons.mpr ⟨dm_bin _ _, ?_⟩
  refine List.forall_mem_cons.mpr ⟨dm_bin _ _, ?_⟩
  refine List.forall_mem_cons.mpr ⟨dm_const _ _, ?_⟩
  refine List.forall_mem_cons.mpr ⟨dm_bin _ _, ?_⟩
  refine List.forall_mem_cons.mpr ⟨trivial, ?_⟩
  refine List.forall_mem_cons.mpr ⟨dm_iload _ _, ?_⟩
  refine List.forall_mem_cons.mpr ⟨dm_const _ _, ?_⟩
  refine List.forall_mem_cons.mpr ⟨dm_icmp _ _ _, ?_⟩
  refine List.forall_mem_cons.mpr ⟨dm_const _ _, ?_⟩
  refine List.forall_mem_cons.mpr ⟨dm_goto _, ?_⟩
  refine List.forall_mem_cons.mpr ⟨dm_const _ _, ?_⟩
  refine List.forall_mem_cons.mpr ⟨trivial, ?_⟩
  refine List.forall_mem_cons.mpr ⟨dm_aload _ _, ?_⟩
  refine List.forall_mem_cons.mpr ⟨trivial, ?_⟩
  refine List.forall_mem_cons.mpr ⟨trivial, ?_⟩
  refine List.forall_mem_cons.mpr ⟨dm_const _ _, ?_⟩
  refine List.forall_mem_cons.mpr ⟨trivial, ?_⟩
  exact fun _ h => absurd h List.not_mem_nil
theorem dt_137 : ∀ q ∈ mt_137, dm_E q.2 := by
  refine List.forall_mem_cons.mpr ⟨dm_aload _ _, ?_⟩
  refine List.forall_mem_cons.mpr ⟨trivial, ?_⟩
  refine List.forall_mem_cons.mpr ⟨dm_istore _ _, ?_⟩
  refine List.forall_mem_cons.mpr ⟨dm_aload _ _, ?_⟩
  refine List.forall_mem_cons.mpr ⟨trivial, ?_⟩
  refine List.forall_mem_cons.mpr ⟨dm_istore _ _, ?_⟩
  refine List.forall_mem_cons.mpr ⟨dm_aload _ _, ?_⟩
  refine List.forall_mem_cons.mpr ⟨trivial, ?_⟩
  refine List.forall_mem_cons.mpr ⟨dm_istore _ _, ?_⟩
  refine List.forall_mem_cons.mpr ⟨dm_iload _ _, ?_⟩
  refine List.forall_mem_cons.mpr ⟨dm_iload _ _, ?_⟩
  refine List.forall_mem_cons.mpr ⟨trivial, ?_⟩
  refine List.forall_mem_cons.mpr ⟨dm_istore _ _, ?_⟩
  refine List.forall_mem_cons.mpr ⟨dm_iload _ _, ?_⟩
  refine List.forall_mem_cons.mpr ⟨dm_const _ _, ?_⟩
  refine List.forall_mem_cons.mpr ⟨dm_icmp _ _ _, ?_⟩
  refine List.forall_mem_cons.mpr ⟨dm_const _ _, ?_⟩
  refine List.forall_mem_cons.mpr ⟨trivial, ?_⟩
  refine List.forall_mem_cons.mpr ⟨dm_const _ _, ?_⟩
  refine List.forall_mem_cons.mpr ⟨dm_iload _ _, ?_⟩
  refine List.forall_mem_cons.mpr ⟨dm_const _ _, ?_⟩
  refine List.forall_mem_cons.mpr ⟨dm_bin _ _, ?_⟩
  refine List.forall_mem_cons.mpr ⟨dm_bin _ _, ?_⟩
  refine List.forall_mem_cons.mpr ⟨dm_istore _ _, ?_⟩
  refine List.forall_mem_cons.mpr ⟨dm_aload _ _, ?_⟩
  refine List.forall_mem_cons.mpr ⟨dm_getf _ _ _, ?_⟩
  refine List.forall_mem_cons.mpr ⟨dm_iload _ _, ?_⟩
  refine List.forall_mem_cons.mpr ⟨dm_aload _ _, ?_⟩
  refine List.forall_mem_cons.mpr ⟨dm_getf _ _ _, ?_⟩
  refine List.forall_mem_cons.mpr ⟨dm_iload _ _, ?_⟩
  refine List.forall_mem_cons.mpr ⟨dm_ald _ _, ?_⟩
  refine List.forall_mem_cons.mpr ⟨dm_const _ _, ?_⟩
  refine List.forall_mem_cons.mpr ⟨dm_iload _ _, ?_⟩
  refine List.forall_mem_cons.mpr ⟨dm_bin _ _, ?_⟩
  refine List.forall_mem_cons.mpr ⟨dm_const _ _, ?_⟩
  refine List.forall_mem_cons.mpr ⟨dm_bin _ _, ?_⟩
  refine List.forall_mem_cons.mpr ⟨dm_bin _ _, ?_⟩
  refine List.forall_mem_cons.mpr ⟨dm_iload _ _, ?_⟩
  refine List.forall_mem_cons.mpr ⟨dm_const _ _, ?_⟩
  refine List.forall_mem_cons.mpr ⟨dm_bin _ _, ?_⟩
  refine List.forall_mem_cons.mpr ⟨dm_iload _ _, ?_⟩
  refine List.forall_mem_cons.mpr ⟨dm_bin _ _, ?_⟩
  refine List.forall_mem_cons.mpr ⟨dm_bin _ _, ?_⟩
  refine List.forall_mem_cons.mpr ⟨dm_ast _ _, ?_⟩
  refine List.forall_mem_cons.mpr ⟨dm_const _ _, ?_⟩
  refine List.forall_mem_cons.mpr ⟨trivial, ?_⟩
  exact fun _ h => absurd h List.not_mem_nil
theorem dt_138 : ∀ q ∈ mt_138, dm_E q.2 := by
  refine List.forall_mem_cons.mpr ⟨dm_aload _ _, ?_⟩
  refine List.forall_mem_cons.mpr ⟨dm_getf _ _ _, ?_⟩
  refine List.forall_mem_cons.mpr ⟨dm_iload _ _, ?_⟩
  refine List.forall_mem_cons.mpr ⟨dm_ald _ _, ?_⟩
  refine List.forall_mem_cons.mpr ⟨dm_istore _ _, ?_⟩
  refine List.forall_mem_cons.mpr ⟨dm_aload _ _, ?_⟩
  refine List.forall_mem_cons.mpr ⟨dm_getf _ _ _, ?_⟩
  refine List.forall_mem_cons.mpr ⟨dm_iload _ _, ?_⟩
  refine List.forall_mem_cons.mpr ⟨dm_ald _ _, ?_⟩
  refine List.forall_mem_cons.mpr ⟨dm_istore _ _, ?_⟩
  refine List.forall_mem_cons.mpr ⟨dm_iload _ _, ?_⟩
  refine List.forall_mem_cons.mpr ⟨dm_const _ _, ?_⟩
  refine List.forall_mem_cons.mpr ⟨dm_icmp _ _ _, ?_⟩
  refine List.forall_mem_cons.mpr ⟨dm_aload _ _, ?_⟩
  refine List.forall_mem_cons.mpr ⟨dm_iload _ _, ?_⟩
  refine List.forall_mem_cons.mpr ⟨trivial, ?_⟩
  refine List.forall_mem_cons.mpr ⟨trivial, ?_⟩
  refine List.forall_mem_cons.mpr ⟨dm_iload _ _, ?_⟩
  refine List.forall_mem_cons.mpr ⟨dm_const _ _, ?_⟩
  refine List.forall_mem_cons.mpr ⟨dm_icmp _ _ _, ?_⟩
  refine List.forall_mem_cons.mpr ⟨dm_iload _ _, ?_⟩
  refine List.forall_mem_cons.mpr ⟨dm_const _ _, ?_⟩
  refine List.forall_mem_cons.mpr ⟨dm_icmp _ _ _, ?_⟩
  refine List.forall_mem_cons.mpr ⟨dm_aload _ _, ?_⟩
  refine List.forall_mem_cons.mpr ⟨trivial, ?_⟩
  refine List.forall_mem_cons.mpr ⟨dm_istore _ _, ?_⟩
  refine List.forall_mem_cons.mpr ⟨dm_iload _ _, ?_⟩
  refine List.forall_mem_cons.mpr ⟨dm_if _ _ _, ?_⟩
  refine List.forall_mem_cons.mpr ⟨dm_const _ _, ?_⟩
  refine List.forall_mem_cons.mpr ⟨dm_goto _, ?_⟩
  refine List.forall_mem_cons.mpr ⟨dm_const _ _, ?_⟩
  refine List.forall_mem_cons.mpr ⟨dm_iload _ _, ?_⟩
  refine List.forall_mem_cons.mpr ⟨dm_const _ _, ?_⟩
  refine List.forall_mem_cons.mpr ⟨dm_icmp _ _ _, ?_⟩
  refine List.forall_mem_cons.mpr ⟨dm_const _ _, ?_⟩
  refine List.forall_mem_cons.mpr ⟨dm_goto _, ?_⟩
  refine List.forall_mem_cons.mpr ⟨dm_const _ _, ?_⟩
  refine List.forall_mem_cons.mpr ⟨dm_icmp _ _ _, ?_⟩
  refine List.forall_mem_cons.mpr ⟨dm_aload _ _, ?_⟩
  refine List.forall_mem_cons.mpr ⟨dm_iload _ _, ?_⟩
  refine List.forall_mem_cons.mpr ⟨trivial, ?_⟩
  refine List.forall_mem_cons.mpr ⟨dm_goto _, ?_⟩
  refine List.forall_mem_cons.mpr ⟨dm_iload _ _, ?_⟩
  refine List.forall_mem_cons.mpr ⟨dm_const _ _, ?_⟩
  refine List.forall_mem_cons.mpr ⟨dm_bin _ _, ?_⟩
  refine List.forall_mem_cons.mpr ⟨trivial, ?_⟩
  refine List.forall_mem_cons.mpr ⟨dm_iload _ _, ?_⟩
  refine List.forall_mem_cons.mpr ⟨dm_const _ _, ?_⟩
  refine List.forall_mem_cons.mpr ⟨dm_icmp _ _ _, ?_⟩
  refine List.forall_mem_cons.mpr ⟨dm_aload _ _, ?_⟩
  refine List.forall_mem_cons.mpr ⟨dm_getf _ _ _, ?_⟩
  refine List.forall_mem_cons.mpr ⟨dm_aload _ _, ?_⟩
  refine List.forall_mem_cons.mpr ⟨dm_getf _ _ _, ?_⟩
  refine List.forall_mem_cons.mpr ⟨dm_const _ _, ?_⟩
  refine List.forall_mem_cons.mpr ⟨dm_bin _ _, ?_⟩
  refine List.forall_mem_cons.mpr ⟨dm_ald _ _, ?_⟩
  refine List.forall_mem_cons.mpr ⟨dm_iload _ _, ?_⟩
  refine List.forall_mem_cons.mpr ⟨dm_icmp _ _ _, ?_⟩
  refine List.forall_mem_cons.mpr ⟨dm_iload _ _, ?_⟩
  refine List.forall_mem_cons.mpr ⟨dm_const _ _, ?_⟩
  refine List.forall_mem_cons.mpr ⟨dm_bin _ _, ?_⟩
  refine List.forall_mem_cons.mpr ⟨trivial, ?_⟩
  refine List.forall_mem_cons.mpr ⟨dm_aload _ _, ?_⟩
  refine List.forall_mem_cons.mpr ⟨trivial, ?_⟩
  refine List.forall_mem_cons.mpr ⟨dm_pop _, ?_⟩
  refine List.forall_mem_cons.mpr ⟨dm_aload _ _, ?_⟩
  refine List.forall_mem_cons.mpr ⟨dm_aload _ _, ?_⟩
  refine List.forall_mem_cons.mpr ⟨dm_getf _ _ _, ?_⟩
  refine List.forall_mem_cons.mpr ⟨dm_iload _ _, ?_⟩
  refine List.forall_mem_cons.mpr ⟨dm_const _ _, ?_⟩
  refine List.forall_mem_cons.mpr ⟨dm_bin _ _, ?_⟩
  refine List.forall_mem_cons.mpr ⟨dm_ald _ _, ?_⟩
  refine List.forall_mem_cons.mpr ⟨trivial, ?_⟩
  refine List.forall_mem_cons.mpr ⟨trivial, ?_⟩
  refine List.forall_mem_cons.mpr ⟨dm_iload _ _, ?_⟩
  refine List.forall_mem_cons.mpr ⟨dm_const _ _, ?_⟩
  refine List.forall_mem_cons.mpr ⟨dm_bin _ _, ?_⟩
  refine List.forall_mem_cons.mpr ⟨trivial, ?_⟩
  exact fun _ h => absurd h List.not_mem_nil
theorem dt_139 : ∀ q ∈ mt_139, dm_E q.2 := by
  refine List.forall_mem_cons.mpr ⟨dm_aload _ _, ?_⟩
  refine List.forall_mem_cons.mpr ⟨dm_const _ _, ?_⟩
  refine List.forall_mem_cons.mpr ⟨dm_putf _ _ _ _, ?_⟩
  refine List.forall_mem_cons.mpr ⟨dm_iload _ _, ?_⟩
  refine List.forall_mem_cons.mpr ⟨dm_const _ _, ?_⟩
  refine List.forall_mem_cons.mpr ⟨dm_const _ _, ?_⟩
  refine List.forall_mem_cons.mpr ⟨trivial, ?_⟩
  refine List.forall_mem_cons.mpr ⟨dm_if _ _ _, ?_⟩
  refine List.forall_mem_cons.mpr ⟨dm_aload _ _, ?_⟩
  refine List.forall_mem_cons.mpr ⟨trivial, ?_⟩
  refine List.forall_mem_cons.mpr ⟨dm_if _ _ _, ?_⟩
  refine List.forall_mem_cons.mpr ⟨dm_const _ _, ?_⟩
  refine List.forall_mem_cons.mpr ⟨trivial, ?_⟩
  refine List.forall_mem_cons.mpr ⟨dm_aload _ _, ?_⟩
  refine List.forall_mem_cons.mpr ⟨dm_const _ _, ?_⟩
  refine List.forall_mem_cons.mpr ⟨dm_putf _ _ _ _, ?_⟩
  refine List.forall_mem_cons.mpr ⟨dm_aload _ _, ?_⟩
  refine List.forall_mem_cons.mpr ⟨dm_iload _ _, ?_⟩
  refine List.forall_mem_cons.mpr ⟨dm_putf _ _ _ _, ?_⟩
  refine List.forall_mem_cons.mpr ⟨dm_aload _ _, ?_⟩
  refine List.forall_mem_cons.mpr ⟨dm_const _ _, ?_⟩
  refine List.forall_mem_cons.mpr ⟨dm_putf _ _ _ _, ?_⟩
  refine List.forall_mem_cons.mpr ⟨dm_const _ _, ?_⟩
  refine List.forall_mem_cons.mpr ⟨dm_istore _ _, ?_⟩
  refine List.forall_mem_cons.mpr ⟨dm_aload _ _, ?_⟩
  refine List.forall_mem_cons.mpr ⟨dm_getf _ _ _, ?_⟩
  refine List.forall_mem_cons.mpr ⟨dm_iload _ _, ?_⟩
  refine List.forall_mem_cons.mpr ⟨dm_ald _ _, ?_⟩
  refine List.forall_mem_cons.mpr ⟨dm_istore _ _, ?_⟩
  refine List.forall_mem_cons.mpr ⟨dm_iload _ _, ?_⟩
  refine List.forall_mem_cons.mpr ⟨dm_const _ _, ?_⟩
  refine List.forall_mem_cons.mpr ⟨dm_icmp _ _ _, ?_⟩
  refine List.forall_mem_cons.mpr ⟨dm_aload _ _, ?_⟩
  refine List.forall_mem_cons.mpr ⟨dm_aload _ _, ?_⟩
  refine List.forall_mem_cons.mpr ⟨trivial, ?_⟩
  refine List.forall_mem_cons.mpr ⟨dm_putf _ _ _ _, ?_⟩
  refine List.forall_mem_cons.mpr ⟨dm_const _ _, ?_⟩
  refine List.forall_mem_cons.mpr ⟨trivial, ?_⟩
  refine List.forall_mem_cons.mpr ⟨dm_iload _ _, ?_⟩
  refine List.forall_mem_cons.mpr ⟨dm_const _ _, ?_⟩
  refine List.forall_mem_cons.mpr ⟨dm_icmp _ _ _, ?_⟩
  refine List.forall_mem_cons.mpr ⟨dm_const _ _, ?_⟩
  refine List.forall_mem_cons.mpr ⟨trivial, ?_⟩
  refine List.forall_mem_cons.mpr ⟨dm_iload _ _, ?_⟩
  refine List.forall_mem_cons.mpr ⟨dm_const _ _, ?_⟩
  refine List.forall_mem_cons.mpr ⟨dm_icmp _ _ _, ?_⟩
  refine List.forall_mem_cons.mpr ⟨dm_aload _ _, ?_⟩
  refine List.forall_mem_cons.mpr ⟨dm_getf _ _ _, ?_⟩
  refine List.forall_mem_cons.mpr ⟨dm_if _ _ _, ?_⟩
  refine List.forall_mem_cons.mpr ⟨dm_const _ _, ?_⟩
  refine List.forall_mem_cons.mpr ⟨trivial, ?_⟩
  refine List.forall_mem_cons.mpr ⟨dm_aload _ _, ?_⟩
  refine List.forall_mem_cons.mpr ⟨dm_dup _, ?_⟩
  refine List.forall_mem_cons.mpr ⟨dm_getf _ _ _, ?_⟩
  refine List.forall_mem_cons.mpr ⟨dm_iload _ _, ?_⟩
  refine List.forall_mem_cons.mpr ⟨dm_const _ _, ?_⟩
  refine List.forall_mem_cons.mpr ⟨dm_icmp _ _ _, ?_⟩
  refine List.forall_mem_cons.mpr ⟨dm_const _ _, ?_⟩
  refine List.forall_mem_cons.mpr ⟨dm_goto _, ?_⟩
  refine List.forall_mem_cons.mpr ⟨dm_const _ _, ?_⟩
  refine List.forall_mem_cons.mpr ⟨dm_bin _ _, ?_⟩
  refine List.forall_mem_cons.mpr ⟨dm_putf _ _ _ _, ?_⟩
  refine List.forall_mem_cons.mpr ⟨dm_aload _ _, ?_⟩
  refine List.forall_mem_cons.mpr ⟨dm_iload _ _, ?_⟩
  refine List.forall_mem_cons.mpr ⟨dm_aload _ _, ?_⟩
  refine List.forall_mem_cons.mpr ⟨dm_getf _ _ _, ?_⟩
  refine List.forall_mem_cons.mpr ⟨dm_iload _ _, ?_⟩
  refine List.forall_mem_cons.mpr ⟨dm_ald _ _, ?_⟩
  refine List.forall_mem_cons.mpr ⟨trivial, ?_⟩
  refine List.forall_mem_cons.mpr ⟨dm_istore _ _, ?_⟩
  refine List.forall_mem_cons.mpr ⟨dm_iload _ _, ?_⟩
  refine List.forall_mem_cons.mpr ⟨dm_if _ _ _, ?_⟩
  refine List.forall_mem_cons.mpr ⟨dm_iload _ _, ?_⟩
  refine List.forall_mem_cons.mpr ⟨trivial, ?_⟩
  refine List.forall_mem_cons.mpr ⟨dm_aload _ _, ?_⟩
  refine List.forall_mem_cons.mpr ⟨dm_iload _ _, ?_⟩
  refine List.forall_mem_cons.mpr ⟨trivial, ?_⟩
  refine List.forall_mem_cons.mpr ⟨dm_istore _ _, ?_⟩
  refine List.forall_mem_cons.mpr ⟨dm_goto _, ?_⟩
  exact fun _ h => absurd h List.not_mem_nil
theorem dt_140 : ∀ q ∈ mt_140, dm_E q.2 := by
  refine List.forall_mem_cons.mpr ⟨dm_aload _ _, ?_⟩
  refine List.forall_mem_cons.mpr ⟨dm_const _ _, ?_⟩
  refine List.forall_mem_cons.mpr ⟨dm_putf _ _ _ _, ?_⟩
  refine List.forall_mem_cons.mpr ⟨dm_aload _ _, ?_⟩
  refine List.forall_mem_cons.mpr ⟨dm_getf _ _ _, ?_⟩
  refine List.forall_mem_cons.mpr ⟨trivial, ?_⟩
  exact fun _ h => absurd h List.not_mem_nil
theorem dt_141 : ∀ q ∈ mt_141, dm_E q.2 := by
  refine List.forall_mem_cons.mpr ⟨dm_aload _ _, ?_⟩
  refine List.forall_mem_cons.mpr ⟨dm_const _ _, ?_⟩
  refine List.forall_mem_cons.mpr ⟨dm_putf _ _ _ _, ?_⟩
  refine List.forall_mem_cons.mpr ⟨dm_aload _ _, ?_⟩
  refine List.forall_mem_cons.mpr ⟨dm_getf _ _ _, ?_⟩
  refine List.forall_mem_cons.mpr ⟨trivial, ?_⟩
  exact fun _ h => absurd h List.not_mem_nil
theorem dt_142 : ∀ q ∈ mt_142, dm_E q.2 := by
  refine List.forall_mem_cons.mpr ⟨dm_aload _ _, ?_⟩
  refine List.forall_mem_cons.mpr ⟨dm_const _ _, ?_⟩
  refine List.forall_mem_cons.mpr ⟨dm_putf _ _ _ _, ?_⟩
  refine List.forall_mem_cons.mpr ⟨dm_iload _ _, ?_⟩
  refine List.forall_mem_cons.mpr ⟨dm_const _ _, ?_⟩
  refine List.forall_mem_cons.mpr ⟨dm_const _ _, ?_⟩
  refine List.forall_mem_cons.mpr ⟨trivial, ?_⟩
  refine List.forall_mem_cons.mpr ⟨dm_if _ _ _, ?_⟩
  refine List.forall_mem_cons.mpr ⟨dm_const _ _, ?_⟩
  refine List.forall_mem_cons.mpr ⟨trivial, ?_⟩
  refine List.forall_mem_cons.mpr ⟨dm_aload _ _, ?_⟩
  refine List.forall_mem_cons.mpr ⟨dm_getf _ _ _, ?_⟩
  refine List.forall_mem_cons.mpr ⟨dm_iload _ _, ?_⟩
  refine List.forall_mem_cons.mpr ⟨dm_ald _ _, ?_⟩
  refine List.forall_mem_cons.mpr ⟨dm_istore _ _, ?_⟩
  refine List.forall_mem_cons.mpr ⟨dm_aload _ _, ?_⟩
  refine List.forall_mem_cons.mpr ⟨dm_getf _ _ _, ?_⟩
  refine List.forall_mem_cons.mpr ⟨dm_iload _ _, ?_⟩
  refine List.forall_mem_cons.mpr ⟨dm_iload _ _, ?_⟩
  refine List.forall_mem_cons.mpr ⟨dm_ast _ _, ?_⟩
  refine List.forall_mem_cons.mpr ⟨dm_iload _ _, ?_⟩
  refine List.forall_mem_cons.mpr ⟨trivial, ?_⟩
  exact fun _ h => absurd h List.not_mem_nil
theorem dt_143 : ∀ q ∈ mt_143, dm_E q.2 := by
  refine List.forall_mem_cons.mpr ⟨dm_aload _ _, ?_⟩
  refine List.forall_mem_cons.mpr ⟨dm_iload _ _, ?_⟩
  refine List.forall_mem_cons.mpr ⟨dm_const _ _, ?_⟩
  refine List.forall_mem_cons.mpr ⟨dm_const _ _, ?_⟩
  refine List.forall_mem_cons.mpr ⟨trivial, ?_⟩
  refine List.forall_mem_cons.mpr ⟨dm_if _ _ _, ?_⟩
  refine List.forall_mem_cons.mpr ⟨dm_const _ _, ?_⟩
  refine List.forall_mem_cons.mpr ⟨dm_goto _, ?_⟩
  refine List.forall_mem_cons.mpr ⟨dm_const _ _, ?_⟩
  refine List.forall_mem_cons.mpr ⟨dm_putf _ _ _ _, ?_⟩
  refine List.forall_mem_cons.mpr ⟨dm_aload _ _, ?_⟩
  refine List.forall_mem_cons.mpr ⟨dm_getf _ _ _, ?_⟩
  refine List.forall_mem_cons.mpr ⟨dm_if _ _ _, ?_⟩
  refine List.forall_mem_cons.mpr ⟨dm_aload _ _, ?_⟩
  refine List.forall_mem_cons.mpr ⟨dm_getf _ _ _, ?_⟩
  refine List.forall_mem_cons.mpr ⟨dm_iload _ _, ?_⟩
  refine List.forall_mem_cons.mpr ⟨dm_ald _ _, ?_⟩
  refine List.forall_mem_cons.mpr ⟨dm_goto _, ?_⟩
  refine List.forall_mem_cons.mpr ⟨dm_const _ _, ?_⟩
  refine List.forall_mem_cons.mpr ⟨trivial, ?_⟩
  exact fun _ h => absurd h List.not_mem_nil
theorem dt_144 : ∀ q ∈ mt_144, dm_E q.2 := by
  refine List.forall_mem_cons.mpr ⟨dm_aload _ _, ?_⟩
  refine List.forall_mem_cons.mpr ⟨dm_const _ _, ?_⟩
  refine List.forall_mem_cons.mpr ⟨dm_putf _ _ _ _, ?_⟩
  refine List.forall_mem_cons.mpr ⟨dm_iload _ _, ?_⟩
  refine List.forall_mem_cons.mpr ⟨dm_const _ _, ?_⟩
  refine List.forall_mem_cons.mpr ⟨dm_const _ _, ?_⟩
  refine List.forall_mem_cons.mpr ⟨trivial, ?_⟩
  refine List.forall_mem_cons.mpr ⟨dm_if _ _ _, ?_⟩
  refine List.forall_mem_cons.mpr ⟨dm_const _ _, ?_⟩
  refine List.forall_mem_cons.mpr ⟨trivial, ?_⟩
  refine List.forall_mem_cons.mpr ⟨dm_aload _ _, ?_⟩
  refine List.forall_mem_cons.mpr ⟨dm_getf _ _ _, ?_⟩
  refine List.forall_mem_cons.mpr ⟨dm_iload _ _, ?_⟩
  refine List.forall_mem_cons.mpr ⟨dm_ald _ _, ?_⟩
  refine List.forall_mem_cons.mpr ⟨dm_istore _ _, ?_⟩
  refine List.forall_mem_cons.mpr ⟨dm_aload _ _, ?_⟩
  refine List.forall_mem_cons.mpr ⟨dm_getf _ _ _, ?_⟩
  refine List.forall_mem_cons.mpr ⟨dm_iload _ _, ?_⟩
  refine List.forall_mem_cons.mpr ⟨dm_iload _ _, ?_⟩
  refine List.forall_mem_cons.mpr ⟨dm_ast _ _, ?_⟩
  refine List.forall_mem_cons.mpr ⟨dm_iload _ _, ?_⟩
  refine List.forall_mem_cons.mpr ⟨trivial, ?_⟩
  exact fun _ h => absurd h List.not_mem_nil
theorem dt_145 : ∀ q ∈ mt_145, dm_E q.2 := by
  refine List.forall_mem_cons.mpr ⟨dm_aload _ _, ?_⟩
  refine List.forall_mem_cons.mpr ⟨dm_iload _ _, ?_⟩
  refine List.forall_mem_cons.mpr ⟨dm_const _ _, ?_⟩
  refine List.forall_mem_cons.mpr ⟨dm_const _ _, ?_⟩
  refine List.forall_mem_cons.mpr ⟨trivial, ?_⟩
  refine List.forall_mem_cons.mpr ⟨dm_if _ _ _, ?_⟩
  refine List.forall_mem_cons.mpr ⟨dm_const _ _, ?_⟩
  refine List.forall_mem_cons.mpr ⟨dm_goto _, ?_⟩
  refine List.forall_mem_cons.mpr ⟨dm_const _ _, ?_⟩
  refine List.forall_mem_cons.mpr ⟨dm_putf _ _ _ _, ?_⟩
  refine List.forall_mem_cons.mpr ⟨dm_aload _ _, ?_⟩
  refine List.forall_mem_cons.mpr ⟨dm_getf _ _ _, ?_⟩
  refine List.forall_mem_cons.mpr ⟨dm_if _ _ _, ?_⟩
  refine List.forall_mem_cons.mpr ⟨dm_aload _ _, ?_⟩
  refine List.forall_mem_cons.mpr ⟨dm_getf _ _ _, ?_⟩
  refine List.forall_mem_cons.mpr ⟨dm_iload _ _, ?_⟩
  refine List.forall_mem_cons.mpr ⟨dm_ald _ _, ?_⟩
  refine List.forall_mem_cons.mpr ⟨dm_goto _, ?_⟩
  refine List.forall_mem_cons.mpr ⟨dm_const _ _, ?_⟩
  refine List.forall_mem_cons.mpr ⟨trivial, ?_⟩
  exact fun _ h => absurd h List.not_mem_nil
