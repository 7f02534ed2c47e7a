/-! NO ENTRY FILLS AN EMPTY ADDRESS: the tables (written by wip/gen99a.py) -/
theorem dt_74 : ∀ q ∈ mt_74, dm_E q.2 := by
  refine List.forall_mem_cons.mpr ⟨dm_aload _ _, ?_⟩
  refine List.forall_mem_cons.mpr ⟨dm_getf _ _ _, ?_⟩
  refine List.forall_mem_cons.mpr ⟨dm_const _ _, ?_⟩
  refine List.forall_mem_cons.mpr ⟨dm_const _ _, ?_⟩
  refine List.forall_mem_cons.mpr ⟨trivial, ?_⟩
  refine List.forall_mem_cons.mpr ⟨dm_const _ _, ?_⟩
  refine List.forall_mem_cons.mpr ⟨dm_istore _ _, ?_⟩
  refine List.forall_mem_cons.mpr ⟨dm_iload _ _, ?_⟩
  refine List.forall_mem_cons.mpr ⟨dm_aload _ _, ?_⟩
  refine List.forall_mem_cons.mpr ⟨dm_getf _ _ _, ?_⟩
  refine List.forall_mem_cons.mpr ⟨trivial, ?_⟩
  refine List.forall_mem_cons.mpr ⟨dm_icmp _ _ _, ?_⟩
  refine List.forall_mem_cons.mpr ⟨dm_aload _ _, ?_⟩
  refine List.forall_mem_cons.mpr ⟨dm_getf _ _ _, ?_⟩
  refine List.forall_mem_cons.mpr ⟨dm_iload _ _, ?_⟩
  refine List.forall_mem_cons.mpr ⟨trivial, ?_⟩
  refine List.forall_mem_cons.mpr ⟨dm_const _ _, ?_⟩
  refine List.forall_mem_cons.mpr ⟨dm_icmp _ _ _, ?_⟩
  refine List.forall_mem_cons.mpr ⟨dm_aload _ _, ?_⟩
  refine List.forall_mem_cons.mpr ⟨dm_getf _ _ _, ?_⟩
  refine List.forall_mem_cons.mpr ⟨dm_aload _ _, ?_⟩
  refine List.forall_mem_cons.mpr ⟨dm_getf _ _ _, ?_⟩
  refine List.forall_mem_cons.mpr ⟨dm_iload _ _, ?_⟩
  refine List.forall_mem_cons.mpr ⟨trivial, ?_⟩
  refine List.forall_mem_cons.mpr ⟨dm_iload _ _, ?_⟩
  refine List.forall_mem_cons.mpr ⟨trivial, ?_⟩
  refine List.forall_mem_cons.mpr ⟨dm_iinc _ _ _, ?_⟩
  refine List.forall_mem_cons.mpr ⟨dm_goto _, ?_⟩
  refine List.forall_mem_cons.mpr ⟨trivial, ?_⟩
  exact fun _ h => absurd h List.not_mem_nil
theorem dt_75 : ∀ q ∈ mt_75, dm_E q.2 := by
  refine List.forall_mem_cons.mpr ⟨dm_aload _ _, ?_⟩
  refine List.forall_mem_cons.mpr ⟨dm_getf _ _ _, ?_⟩
  refine List.forall_mem_cons.mpr ⟨dm_const _ _, ?_⟩
  refine List.forall_mem_cons.mpr ⟨dm_const _ _, ?_⟩
  refine List.forall_mem_cons.mpr ⟨trivial, ?_⟩
  refine List.forall_mem_cons.mpr ⟨dm_const _ _, ?_⟩
  refine List.forall_mem_cons.mpr ⟨dm_istore _ _, ?_⟩
  refine List.forall_mem_cons.mpr ⟨dm_iload _ _, ?_⟩
  refine List.forall_mem_cons.mpr ⟨dm_aload _ _, ?_⟩
  refine List.forall_mem_cons.mpr ⟨dm_getf _ _ _, ?_⟩
  refine List.forall_mem_cons.mpr ⟨trivial, ?_⟩
  refine List.forall_mem_cons.mpr ⟨dm_icmp _ _ _, ?_⟩
  refine List.forall_mem_cons.mpr ⟨dm_aload _ _, ?_⟩
  refine List.forall_mem_cons.mpr ⟨dm_getf _ _ _, ?_⟩
  refine List.forall_mem_cons.mpr ⟨dm_iload _ _, ?_⟩
  refine List.forall_mem_cons.mpr ⟨trivial, ?_⟩
  refine List.forall_mem_cons.mpr ⟨trivial, ?_⟩
  refine List.forall_mem_cons.mpr ⟨dm_if _ _ _, ?_⟩
  refine List.forall_mem_cons.mpr ⟨dm_aload _ _, ?_⟩
  refine List.forall_mem_cons.mpr ⟨dm_aload _ _, ?_⟩
  refine List.forall_mem_cons.mpr ⟨dm_getf _ _ _, ?_⟩
  refine List.forall_mem_cons.mpr ⟨dm_iload _ _, ?_⟩
  refine List.forall_mem_cons.mpr ⟨trivial, ?_⟩
  refine List.forall_mem_cons.mpr ⟨trivial, ?_⟩
  refine List.forall_mem_cons.mpr ⟨dm_istore _ _, ?_⟩
  refine List.forall_mem_cons.mpr ⟨dm_aload _ _, ?_⟩
  refine List.forall_mem_cons.mpr ⟨dm_getf _ _ _, ?_⟩
  refine List.forall_mem_cons.mpr ⟨dm_iload _ _, ?_⟩
  refine List.forall_mem_cons.mpr ⟨dm_aload _ _, ?_⟩
  refine List.forall_mem_cons.mpr ⟨dm_getf _ _ _, ?_⟩
  refine List.forall_mem_cons.mpr ⟨dm_iload _ _, ?_⟩
  refine List.forall_mem_cons.mpr ⟨trivial, ?_⟩
  refine List.forall_mem_cons.mpr ⟨dm_const _ _, ?_⟩
  refine List.forall_mem_cons.mpr ⟨dm_bin _ _, ?_⟩
  refine List.forall_mem_cons.mpr ⟨trivial, ?_⟩
  refine List.forall_mem_cons.mpr ⟨dm_iinc _ _ _, ?_⟩
  refine List.forall_mem_cons.mpr ⟨dm_goto _, ?_⟩
  refine List.forall_mem_cons.mpr ⟨trivial, ?_⟩
  exact fun _ h => absurd h List.not_mem_nil
theorem dt_76 : ∀ q ∈ mt_76, dm_E q.2 := by
  refine List.forall_mem_cons.mpr ⟨dm_iload _ _, ?_⟩
  refine List.forall_mem_cons.mpr ⟨dm_istore _ _, ?_⟩
  refine List.forall_mem_cons.mpr ⟨dm_const _ _, ?_⟩
  refine List.forall_mem_cons.mpr ⟨dm_istore _ _, ?_⟩
  refine List.forall_mem_cons.mpr ⟨dm_iload _ _, ?_⟩
  refine List.forall_mem_cons.mpr ⟨dm_const _ _, ?_⟩
  refine List.forall_mem_cons.mpr ⟨dm_icmp _ _ _, ?_⟩
  refine List.forall_mem_cons.mpr ⟨dm_aload _ _, ?_⟩
  refine List.forall_mem_cons.mpr ⟨dm_getf _ _ _, ?_⟩
  refine List.forall_mem_cons.mpr ⟨dm_iload _ _, ?_⟩
  refine List.forall_mem_cons.mpr ⟨trivial, ?_⟩
  refine List.forall_mem_cons.mpr ⟨dm_const _ _, ?_⟩
  refine List.forall_mem_cons.mpr ⟨dm_bin _ _, ?_⟩
  refine List.forall_mem_cons.mpr ⟨dm_istore _ _, ?_⟩
  refine List.forall_mem_cons.mpr ⟨dm_aload _ _, ?_⟩
  refine List.forall_mem_cons.mpr ⟨dm_getf _ _ _, ?_⟩
  refine List.forall_mem_cons.mpr ⟨dm_iload _ _, ?_⟩
  refine List.forall_mem_cons.mpr ⟨trivial, ?_⟩
  refine List.forall_mem_cons.mpr ⟨dm_istore _ _, ?_⟩
  refine List.forall_mem_cons.mpr ⟨dm_iload _ _, ?_⟩
  refine List.forall_mem_cons.mpr ⟨dm_const _ _, ?_⟩
  refine List.forall_mem_cons.mpr ⟨dm_icmp _ _ _, ?_⟩
  refine List.forall_mem_cons.mpr ⟨dm_iload _ _, ?_⟩
  refine List.forall_mem_cons.mpr ⟨dm_const _ _, ?_⟩
  refine List.forall_mem_cons.mpr ⟨dm_icmp _ _ _, ?_⟩
  refine List.forall_mem_cons.mpr ⟨dm_iload _ _, ?_⟩
  refine List.forall_mem_cons.mpr ⟨trivial, ?_⟩
  refine List.forall_mem_cons.mpr ⟨dm_aload _ _, ?_⟩
  refine List.forall_mem_cons.mpr ⟨dm_getf _ _ _, ?_⟩
  refine List.forall_mem_cons.mpr ⟨dm_iload _ _, ?_⟩
  refine List.forall_mem_cons.mpr ⟨trivial, ?_⟩
  refine List.forall_mem_cons.mpr ⟨dm_istore _ _, ?_⟩
  refine List.forall_mem_cons.mpr ⟨dm_iinc _ _ _, ?_⟩
  refine List.forall_mem_cons.mpr ⟨dm_goto _, ?_⟩
  refine List.forall_mem_cons.mpr ⟨dm_iload _ _, ?_⟩
  refine List.forall_mem_cons.mpr ⟨trivial, ?_⟩
  exact fun _ h => absurd h List.not_mem_nil
theorem dt_77 : ∀ q ∈ mt_77, dm_E q.2 := by
  refine List.forall_mem_cons.mpr ⟨dm_aload _ _, ?_⟩
  refine List.forall_mem_cons.mpr ⟨dm_getf _ _ _, ?_⟩
  refine List.forall_mem_cons.mpr ⟨dm_const _ _, ?_⟩
  refine List.forall_mem_cons.mpr ⟨trivial, ?_⟩
  refine List.forall_mem_cons.mpr ⟨dm_const _ _, ?_⟩
  refine List.forall_mem_cons.mpr ⟨dm_istore _ _, ?_⟩
  refine List.forall_mem_cons.mpr ⟨dm_const _ _, ?_⟩
  refine List.forall_mem_cons.mpr ⟨dm_istore _ _, ?_⟩
  refine List.forall_mem_cons.mpr ⟨dm_iload _ _, ?_⟩
  refine List.forall_mem_cons.mpr ⟨dm_aload _ _, ?_⟩
  refine List.forall_mem_cons.mpr ⟨dm_getf _ _ _, ?_⟩
  refine List.forall_mem_cons.mpr ⟨trivial, ?_⟩
  refine List.forall_mem_cons.mpr ⟨dm_icmp _ _ _, ?_⟩
  refine List.forall_mem_cons.mpr ⟨dm_aload _ _, ?_⟩
  refine List.forall_mem_cons.mpr ⟨dm_getf _ _ _, ?_⟩
  refine List.forall_mem_cons.mpr ⟨dm_iload _ _, ?_⟩
  refine List.forall_mem_cons.mpr ⟨trivial, ?_⟩
  refine List.forall_mem_cons.mpr ⟨dm_istore _ _, ?_⟩
  refine List.forall_mem_cons.mpr ⟨dm_aload _ _, ?_⟩
  refine List.forall_mem_cons.mpr ⟨dm_getf _ _ _, ?_⟩
  refine List.forall_mem_cons.mpr ⟨dm_iload _ _, ?_⟩
  refine List.forall_mem_cons.mpr ⟨trivial, ?_⟩
  refine List.forall_mem_cons.mpr ⟨dm_istore _ _, ?_⟩
  refine List.forall_mem_cons.mpr ⟨dm_iload _ _, ?_⟩
  refine List.forall_mem_cons.mpr ⟨dm_const _ _, ?_⟩
  refine List.forall_mem_cons.mpr ⟨dm_icmp _ _ _, ?_⟩
  refine List.forall_mem_cons.mpr ⟨dm_aload _ _, ?_⟩
  refine List.forall_mem_cons.mpr ⟨dm_getf _ _ _, ?_⟩
  refine List.forall_mem_cons.mpr ⟨dm_iload _ _, ?_⟩
  refine List.forall_mem_cons.mpr ⟨trivial, ?_⟩
  refine List.forall_mem_cons.mpr ⟨dm_if _ _ _, ?_⟩
  refine List.forall_mem_cons.mpr ⟨dm_goto _, ?_⟩
  refine List.forall_mem_cons.mpr ⟨dm_iload _ _, ?_⟩
  refine List.forall_mem_cons.mpr ⟨dm_if _ _ _, ?_⟩
  refine List.forall_mem_cons.mpr ⟨dm_iload _ _, ?_⟩
  refine List.forall_mem_cons.mpr ⟨dm_const _ _, ?_⟩
  refine List.forall_mem_cons.mpr ⟨dm_icmp _ _ _, ?_⟩
  refine List.forall_mem_cons.mpr ⟨dm_goto _, ?_⟩
  refine List.forall_mem_cons.mpr ⟨dm_iload _ _, ?_⟩
  refine List.forall_mem_cons.mpr ⟨trivial, ?_⟩
  refine List.forall_mem_cons.mpr ⟨dm_if _ _ _, ?_⟩
  refine List.forall_mem_cons.mpr ⟨dm_aload _ _, ?_⟩
  refine List.forall_mem_cons.mpr ⟨dm_iload _ _, ?_⟩
  refine List.forall_mem_cons.mpr ⟨trivial, ?_⟩
  refine List.forall_mem_cons.mpr ⟨dm_goto _, ?_⟩
  refine List.forall_mem_cons.mpr ⟨dm_iload _ _, ?_⟩
  refine List.forall_mem_cons.mpr ⟨dm_istore _ _, ?_⟩
  refine List.forall_mem_cons.mpr ⟨dm_aload _ _, ?_⟩
  refine List.forall_mem_cons.mpr ⟨dm_iload _ _, ?_⟩
  refine List.forall_mem_cons.mpr ⟨dm_iload _ _, ?_⟩
  refine List.forall_mem_cons.mpr ⟨trivial, ?_⟩
  refine List.forall_mem_cons.mpr ⟨dm_if _ _ _, ?_⟩
  refine List.forall_mem_cons.mpr ⟨dm_aload _ _, ?_⟩
  refine List.forall_mem_cons.mpr ⟨dm_getf _ _ _, ?_⟩
  refine List.forall_mem_cons.mpr ⟨dm_iload _ _, ?_⟩
  refine List.forall_mem_cons.mpr ⟨dm_iload _ _, ?_⟩
  refine List.forall_mem_cons.mpr ⟨trivial, ?_⟩
  refine List.forall_mem_cons.mpr ⟨dm_aload _ _, ?_⟩
  refine List.forall_mem_cons.mpr ⟨dm_getf _ _ _, ?_⟩
  refine List.forall_mem_cons.mpr ⟨dm_const _ _, ?_⟩
  refine List.forall_mem_cons.mpr ⟨trivial, ?_⟩
  refine List.forall_mem_cons.mpr ⟨trivial, ?_⟩
  refine List.forall_mem_cons.mpr ⟨dm_istore _ _, ?_⟩
  refine List.forall_mem_cons.mpr ⟨dm_iinc _ _ _, ?_⟩
  refine List.forall_mem_cons.mpr ⟨dm_goto _, ?_⟩
  refine List.forall_mem_cons.mpr ⟨trivial, ?_⟩
  exact fun _ h => absurd h List.not_mem_nil
theorem dt_78 : ∀ q ∈ mt_78, dm_E q.2 := by
  refine List.forall_mem_cons.mpr ⟨dm_iload _ _, ?_⟩
  refine List.forall_mem_cons.mpr ⟨dm_table _ _ _ _, ?_⟩
  refine List.forall_mem_cons.mpr ⟨dm_aload _ _, ?_⟩
  refine List.forall_mem_cons.mpr ⟨dm_iload _ _, ?_⟩
  refine List.forall_mem_cons.mpr ⟨trivial, ?_⟩
  refine List.forall_mem_cons.mpr ⟨trivial, ?_⟩
  refine List.forall_mem_cons.mpr ⟨dm_aload _ _, ?_⟩
  refine List.forall_mem_cons.mpr ⟨dm_iload _ _, ?_⟩
  refine List.forall_mem_cons.mpr ⟨trivial, ?_⟩
  refine List.forall_mem_cons.mpr ⟨trivial, ?_⟩
  refine List.forall_mem_cons.mpr ⟨dm_aload _ _, ?_⟩
  refine List.forall_mem_cons.mpr ⟨dm_iload _ _, ?_⟩
  refine List.forall_mem_cons.mpr ⟨trivial, ?_⟩
  refine List.forall_mem_cons.mpr ⟨trivial, ?_⟩
  refine List.forall_mem_cons.mpr ⟨dm_aload _ _, ?_⟩
  refine List.forall_mem_cons.mpr ⟨trivial, ?_⟩
  refine List.forall_mem_cons.mpr ⟨trivial, ?_⟩
  refine List.forall_mem_cons.mpr ⟨dm_aload _ _, ?_⟩
  refine List.forall_mem_cons.mpr ⟨dm_iload _ _, ?_⟩
  refine List.forall_mem_cons.mpr ⟨dm_iload _ _, ?_⟩
  refine List.forall_mem_cons.mpr ⟨trivial, ?_⟩
  refine List.forall_mem_cons.mpr ⟨trivial, ?_⟩
  refine List.forall_mem_cons.mpr ⟨dm_aload _ _, ?_⟩
  refine List.forall_mem_cons.mpr ⟨dm_iload _ _, ?_⟩
  refine List.forall_mem_cons.mpr ⟨trivial, ?_⟩
  refine List.forall_mem_cons.mpr ⟨dm_const _ _, ?_⟩
  refine List.forall_mem_cons.mpr ⟨trivial, ?_⟩
  refine List.forall_mem_cons.mpr ⟨dm_const _ _, ?_⟩
  refine List.forall_mem_cons.mpr ⟨trivial, ?_⟩
  exact fun _ h => absurd h List.not_mem_nil
theorem dt_79 : ∀ q ∈ mt_79, dm_E q.2 := by
  refine List.forall_mem_cons.mpr ⟨dm_aload _ _, ?_⟩
  refine List.forall_mem_cons.mpr ⟨dm_getf _ _ _, ?_⟩
  refine List.forall_mem_cons.mpr ⟨dm_const _ _, ?_⟩
  refine List.forall_mem_cons.mpr ⟨trivial, ?_⟩
  refine List.forall_mem_cons.mpr ⟨dm_istore _ _, ?_⟩
  refine List.forall_mem_cons.mpr ⟨dm_iload _ _, ?_⟩
  refine List.forall_mem_cons.mpr ⟨dm_if _ _ _, ?_⟩
  refine List.forall_mem_cons.mpr ⟨dm_aload _ _, ?_⟩
  refine List.forall_mem_cons.mpr ⟨dm_getf _ _ _, ?_⟩
  refine List.forall_mem_cons.mpr ⟨dm_const _ _, ?_⟩
  refine List.forall_mem_cons.mpr ⟨trivial, ?_⟩
  refine List.forall_mem_cons.mpr ⟨dm_istore _ _, ?_⟩
  refine List.forall_mem_cons.mpr ⟨dm_aload _ _, ?_⟩
  refine List.forall_mem_cons.mpr ⟨dm_getf _ _ _, ?_⟩
  refine List.forall_mem_cons.mpr ⟨dm_const _ _, ?_⟩
  refine List.forall_mem_cons.mpr ⟨dm_const _ _, ?_⟩
  refine List.forall_mem_cons.mpr ⟨dm_iload _ _, ?_⟩
  refine List.forall_mem_cons.mpr ⟨dm_const _ _, ?_⟩
  refine List.forall_mem_cons.mpr ⟨dm_icmp _ _ _, ?_⟩
  refine List.forall_mem_cons.mpr ⟨dm_iload _ _, ?_⟩
  refine List.forall_mem_cons.mpr ⟨dm_ineg _, ?_⟩
  refine List.forall_mem_cons.mpr ⟨dm_goto _, ?_⟩
  refine List.forall_mem_cons.mpr ⟨dm_iload _ _, ?_⟩
  refine List.forall_mem_cons.mpr ⟨dm_const _ _, ?_⟩
  refine List.forall_mem_cons.mpr ⟨dm_bin _ _, ?_⟩
  refine List.forall_mem_cons.mpr ⟨trivial, ?_⟩
  refine List.forall_mem_cons.mpr ⟨dm_const _ _, ?_⟩
  refine List.forall_mem_cons.mpr ⟨trivial, ?_⟩
  refine List.forall_mem_cons.mpr ⟨dm_iload _ _, ?_⟩
  refine List.forall_mem_cons.mpr ⟨dm_iload _ _, ?_⟩
  refine List.forall_mem_cons.mpr ⟨dm_icmp _ _ _, ?_⟩
  refine List.forall_mem_cons.mpr ⟨dm_aload _ _, ?_⟩
  refine List.forall_mem_cons.mpr ⟨dm_getf _ _ _, ?_⟩
  refine List.forall_mem_cons.mpr ⟨trivial, ?_⟩
  refine List.forall_mem_cons.mpr ⟨dm_const _ _, ?_⟩
  refine List.forall_mem_cons.mpr ⟨trivial, ?_⟩
  refine List.forall_mem_cons.mpr ⟨dm_iload _ _, ?_⟩
  refine List.forall_mem_cons.mpr ⟨dm_const _ _, ?_⟩
  refine List.forall_mem_cons.mpr ⟨dm_icmp _ _ _, ?_⟩
  refine List.forall_mem_cons.mpr ⟨dm_iload _ _, ?_⟩
  refine List.forall_mem_cons.mpr ⟨dm_const _ _, ?_⟩
  refine List.forall_mem_cons.mpr ⟨dm_icmp _ _ _, ?_⟩
  refine List.forall_mem_cons.mpr ⟨dm_aload _ _, ?_⟩
  refine List.forall_mem_cons.mpr ⟨dm_getf _ _ _, ?_⟩
  refine List.forall_mem_cons.mpr ⟨dm_const _ _, ?_⟩
  refine List.forall_mem_cons.mpr ⟨dm_const _ _, ?_⟩
  refine List.forall_mem_cons.mpr ⟨dm_aload _ _, ?_⟩
  refine List.forall_mem_cons.mpr ⟨dm_getf _ _ _, ?_⟩
  refine List.forall_mem_cons.mpr ⟨dm_const _ _, ?_⟩
  refine List.forall_mem_cons.mpr ⟨trivial, ?_⟩
  refine List.forall_mem_cons.mpr ⟨trivial, ?_⟩
  refine List.forall_mem_cons.mpr ⟨trivial, ?_⟩
  refine List.forall_mem_cons.mpr ⟨dm_const _ _, ?_⟩
  refine List.forall_mem_cons.mpr ⟨trivial, ?_⟩
  refine List.forall_mem_cons.mpr ⟨dm_const _ _, ?_⟩
  refine List.forall_mem_cons.mpr ⟨trivial, ?_⟩
  exact fun _ h => absurd h List.not_mem_nil
theorem dt_80 : ∀ q ∈ mt_80, dm_E q.2 := by
  refine List.forall_mem_cons.mpr ⟨dm_aload _ _, ?_⟩
  refine List.forall_mem_cons.mpr ⟨dm_getf _ _ _, ?_⟩
  refine List.forall_mem_cons.mpr ⟨dm_const _ _, ?_⟩
  refine List.forall_mem_cons.mpr ⟨trivial, ?_⟩
  refine List.forall_mem_cons.mpr ⟨dm_if _ _ _, ?_⟩
  refine List.forall_mem_cons.mpr ⟨dm_const _ _, ?_⟩
  refine List.forall_mem_cons.mpr ⟨trivial, ?_⟩
  refine List.forall_mem_cons.mpr ⟨dm_aload _ _, ?_⟩
  refine List.forall_mem_cons.mpr ⟨dm_getf _ _ _, ?_⟩
  refine List.forall_mem_cons.mpr ⟨dm_const _ _, ?_⟩
  refine List.forall_mem_cons.mpr ⟨trivial, ?_⟩
  refine List.forall_mem_cons.mpr ⟨dm_istore _ _, ?_⟩
  refine List.forall_mem_cons.mpr ⟨dm_iload _ _, ?_⟩
  refine List.forall_mem_cons.mpr ⟨dm_iload _ _, ?_⟩
  refine List.forall_mem_cons.mpr ⟨trivial, ?_⟩
  refine List.forall_mem_cons.mpr ⟨dm_if _ _ _, ?_⟩
  refine List.forall_mem_cons.mpr ⟨dm_aload _ _, ?_⟩
  refine List.forall_mem_cons.mpr ⟨dm_getf _ _ _, ?_⟩
  refine List.forall_mem_cons.mpr ⟨trivial, ?_⟩
  refine List.forall_mem_cons.mpr ⟨dm_const _ _, ?_⟩
  refine List.forall_mem_cons.mpr ⟨trivial, ?_⟩
  refine List.forall_mem_cons.mpr ⟨dm_aload _ _, ?_⟩
  refine List.forall_mem_cons.mpr ⟨dm_getf _ _ _, ?_⟩
  refine List.forall_mem_cons.mpr ⟨dm_const _ _, ?_⟩
  refine List.forall_mem_cons.mpr ⟨trivial, ?_⟩
  refine List.forall_mem_cons.mpr ⟨dm_if _ _ _, ?_⟩
  refine List.forall_mem_cons.mpr ⟨dm_iload _ _, ?_⟩
  refine List.forall_mem_cons.mpr ⟨dm_if _ _ _, ?_⟩
  refine List.forall_mem_cons.mpr ⟨dm_iload _ _, ?_⟩
  refine List.forall_mem_cons.mpr ⟨trivial, ?_⟩
  refine List.forall_mem_cons.mpr ⟨dm_if _ _ _, ?_⟩
  refine List.forall_mem_cons.mpr ⟨dm_const _ _, ?_⟩
  refine List.forall_mem_cons.mpr ⟨trivial, ?_⟩
  refine List.forall_mem_cons.mpr ⟨dm_aload _ _, ?_⟩
  refine List.forall_mem_cons.mpr ⟨dm_getf _ _ _, ?_⟩
  refine List.forall_mem_cons.mpr ⟨dm_const _ _, ?_⟩
  refine List.forall_mem_cons.mpr ⟨dm_const _ _, ?_⟩
  refine List.forall_mem_cons.mpr ⟨dm_iload _ _, ?_⟩
  refine List.forall_mem_cons.mpr ⟨dm_aload _ _, ?_⟩
  refine List.forall_mem_cons.mpr ⟨dm_getf _ _ _, ?_⟩
  refine List.forall_mem_cons.mpr ⟨dm_const _ _, ?_⟩
  refine List.forall_mem_cons.mpr ⟨trivial, ?_⟩
  refine List.forall_mem_cons.mpr ⟨dm_iload _ _, ?_⟩
  refine List.forall_mem_cons.mpr ⟨trivial, ?_⟩
  refine List.forall_mem_cons.mpr ⟨trivial, ?_⟩
  refine List.forall_mem_cons.mpr ⟨dm_const _ _, ?_⟩
  refine List.forall_mem_cons.mpr ⟨trivial, ?_⟩
  exact fun _ h => absurd h List.not_mem_nil
theorem dt_81 : ∀ q ∈ mt_81, dm_E q.2 := by
  refine List.forall_mem_cons.mpr ⟨dm_aload _ _, ?_⟩
  refine List.forall_mem_cons.mpr ⟨dm_getf _ _ _, ?_⟩
  refine List.forall_mem_cons.mpr ⟨dm_const _ _, ?_⟩
  refine List.forall_mem_cons.mpr ⟨trivial, ?_⟩
  refine List.forall_mem_cons.mpr ⟨dm_if _ _ _, ?_⟩
  refine List.forall_mem_cons.mpr ⟨dm_const _ _, ?_⟩
  refine List.forall_mem_cons.mpr ⟨trivial, ?_⟩
  refine List.forall_mem_cons.mpr ⟨dm_aload _ _, ?_⟩
  refine List.forall_mem_cons.mpr ⟨dm_getf _ _ _, ?_⟩
  refine List.forall_mem_cons.mpr ⟨dm_const _ _, ?_⟩
  refine List.forall_mem_cons.mpr ⟨trivial, ?_⟩
  refine List.forall_mem_cons.mpr ⟨dm_istore _ _, ?_⟩
  refine List.forall_mem_cons.mpr ⟨dm_aload _ _, ?_⟩
  refine List.forall_mem_cons.mpr ⟨dm_getf _ _ _, ?_⟩
  refine List.forall_mem_cons.mpr ⟨dm_const _ _, ?_⟩
  refine List.forall_mem_cons.mpr ⟨trivial, ?_⟩
  refine List.forall_mem_cons.mpr ⟨dm_if _ _ _, ?_⟩
  refine List.forall_mem_cons.mpr ⟨dm_aload _ _, ?_⟩
  refine List.forall_mem_cons.mpr ⟨dm_getf _ _ _, ?_⟩
  refine List.forall_mem_cons.mpr ⟨dm_const _ _, ?_⟩
  refine List.forall_mem_cons.mpr ⟨dm_const _ _, ?_⟩
  refine List.forall_mem_cons.mpr ⟨dm_iload _ _, ?_⟩
  refine List.forall_mem_cons.mpr ⟨dm_aload _ _, ?_⟩
  refine List.forall_mem_cons.mpr ⟨dm_getf _ _ _, ?_⟩
  refine List.forall_mem_cons.mpr ⟨dm_const _ _, ?_⟩
  refine List.forall_mem_cons.mpr ⟨trivial, ?_⟩
  refine List.forall_mem_cons.mpr ⟨dm_iload _ _, ?_⟩
  refine List.forall_mem_cons.mpr ⟨trivial, ?_⟩
  refine List.forall_mem_cons.mpr ⟨trivial, ?_⟩
  refine List.forall_mem_cons.mpr ⟨dm_const _ _, ?_⟩
  refine List.forall_mem_cons.mpr ⟨trivial, ?_⟩
  refine List.forall_mem_cons.mpr ⟨dm_aload _ _, ?_⟩
  refine List.forall_mem_cons.mpr ⟨dm_getf _ _ _, ?_⟩
  refine List.forall_mem_cons.mpr ⟨dm_const _ _, ?_⟩
  refine List.forall_mem_cons.mpr ⟨trivial, ?_⟩
  refine List.forall_mem_cons.mpr ⟨dm_const _ _, ?_⟩
  refine List.forall_mem_cons.mpr ⟨dm_icmp _ _ _, ?_⟩
  refine List.forall_mem_cons.mpr ⟨dm_iload _ _, ?_⟩
  refine List.forall_mem_cons.mpr ⟨dm_if _ _ _, ?_⟩
  refine List.forall_mem_cons.mpr ⟨dm_iload _ _, ?_⟩
  refine List.forall_mem_cons.mpr ⟨dm_const _ _, ?_⟩
  refine List.forall_mem_cons.mpr ⟨dm_icmp _ _ _, ?_⟩
  refine List.forall_mem_cons.mpr ⟨dm_aload _ _, ?_⟩
  refine List.forall_mem_cons.mpr ⟨dm_getf _ _ _, ?_⟩
  refine List.forall_mem_cons.mpr ⟨dm_const _ _, ?_⟩
  refine List.forall_mem_cons.mpr ⟨trivial, ?_⟩
  refine List.forall_mem_cons.mpr ⟨dm_istore _ _, ?_⟩
  refine List.forall_mem_cons.mpr ⟨dm_aload _ _, ?_⟩
  refine List.forall_mem_cons.mpr ⟨dm_getf _ _ _, ?_⟩
  refine List.forall_mem_cons.mpr ⟨dm_const _ _, ?_⟩
  refine List.forall_mem_cons.mpr ⟨dm_const _ _, ?_⟩
  refine List.forall_mem_cons.mpr ⟨dm_iload _ _, ?_⟩
  refine List.forall_mem_cons.mpr ⟨dm_if _ _ _, ?_⟩
  refine List.forall_mem_cons.mpr ⟨dm_iload _ _, ?_⟩
  refine List.forall_mem_cons.mpr ⟨trivial, ?_⟩
  refine List.forall_mem_cons.mpr ⟨dm_goto _, ?_⟩
  refine List.forall_mem_cons.mpr ⟨dm_iload _ _, ?_⟩
  refine List.forall_mem_cons.mpr ⟨trivial, ?_⟩
  refine List.forall_mem_cons.mpr ⟨dm_const _ _, ?_⟩
  refine List.forall_mem_cons.mpr ⟨trivial, ?_⟩
  refine List.forall_mem_cons.mpr ⟨dm_const _ _, ?_⟩
  refine List.forall_mem_cons.mpr ⟨trivial, ?_⟩
  exact fun _ h => absurd h List.not_mem_nil
theorem dt_82 : ∀ q ∈ mt_82, dm_E q.2 := by
  refine List.forall_mem_cons.mpr ⟨dm_aload _ _, ?_⟩
  refine List.forall_mem_cons.mpr ⟨dm_getf _ _ _, ?_⟩
  refine List.forall_mem_cons.mpr ⟨dm_const _ _, ?_⟩
  refine List.forall_mem_cons.mpr ⟨trivial, ?_⟩
  refine List.forall_mem_cons.mpr ⟨dm_istore _ _, ?_⟩
  refine List.forall_mem_cons.mpr ⟨dm_iload _ _, ?_⟩
  refine List.forall_mem_cons.mpr ⟨dm_const _ _, ?_⟩
  refine List.forall_mem_cons.mpr ⟨dm_icmp _ _ _, ?_⟩
  refine List.forall_mem_cons.mpr ⟨dm_iload _ _, ?_⟩
  refine List.forall_mem_cons.mpr ⟨dm_const _ _, ?_⟩
  refine List.forall_mem_cons.mpr ⟨dm_icmp _ _ _, ?_⟩
  refine List.forall_mem_cons.mpr ⟨dm_aload _ _, ?_⟩
  refine List.forall_mem_cons.mpr ⟨dm_getf _ _ _, ?_⟩
  refine List.forall_mem_cons.mpr ⟨trivial, ?_⟩
  refine List.forall_mem_cons.mpr ⟨dm_const _ _, ?_⟩
  refine List.forall_mem_cons.mpr ⟨trivial, ?_⟩
  refine List.forall_mem_cons.mpr ⟨dm_iload _ _, ?_⟩
  refine List.forall_mem_cons.mpr ⟨dm_if _ _ _, ?_⟩
  refine List.forall_mem_cons.mpr ⟨dm_iload _ _, ?_⟩
  refine List.forall_mem_cons.mpr ⟨dm_const _ _, ?_⟩
  refine List.forall_mem_cons.mpr ⟨dm_icmp _ _ _, ?_⟩
  refine List.forall_mem_cons.mpr ⟨dm_aload _ _, ?_⟩
  refine List.forall_mem_cons.mpr ⟨dm_getf _ _ _, ?_⟩
  refine List.forall_mem_cons.mpr ⟨trivial, ?_⟩
  refine List.forall_mem_cons.mpr ⟨dm_const _ _, ?_⟩
  refine List.forall_mem_cons.mpr ⟨trivial, ?_⟩
  refine List.forall_mem_cons.mpr ⟨dm_const _ _, ?_⟩
  refine List.forall_mem_cons.mpr ⟨trivial, ?_⟩
  exact fun _ h => absurd h List.not_mem_nil
theorem dt_83 : ∀ q ∈ mt_83, dm_E q.2 := by
  refine List.forall_mem_cons.mpr ⟨dm_aload _ _, ?_⟩
  refine List.forall_mem_cons.mpr ⟨dm_getf _ _ _, ?_⟩
  refine List.forall_mem_cons.mpr ⟨dm_const _ _, ?_⟩
  refine List.forall_mem_cons.mpr ⟨trivial, ?_⟩
  refine List.forall_mem_cons.mpr ⟨dm_if _ _ _, ?_⟩
  refine List.forall_mem_cons.mpr ⟨dm_aload _ _, ?_⟩
  refine List.forall_mem_cons.mpr ⟨dm_getf _ _ _, ?_⟩
  refine List.forall_mem_cons.mpr ⟨dm_const _ _, ?_⟩
  refine List.forall_mem_cons.mpr ⟨trivial, ?_⟩
  refine List.forall_mem_cons.mpr ⟨dm_if _ _ _, ?_⟩
  refine List.forall_mem_cons.mpr ⟨dm_const _ _, ?_⟩
  refine List.forall_mem_cons.mpr ⟨dm_goto _, ?_⟩
  refine List.forall_mem_cons.mpr ⟨dm_const _ _, ?_⟩
  refine List.forall_mem_cons.mpr ⟨dm_istore _ _, ?_⟩
  refine List.forall_mem_cons.mpr ⟨dm_aload _ _, ?_⟩
  refine List.forall_mem_cons.mpr ⟨dm_getf _ _ _, ?_⟩
  refine List.forall_mem_cons.mpr ⟨trivial, ?_⟩
  refine List.forall_mem_cons.mpr ⟨dm_iload _ _, ?_⟩
  refine List.forall_mem_cons.mpr ⟨dm_iload _ _, ?_⟩
  refine List.forall_mem_cons.mpr ⟨dm_const _ _, ?_⟩
  refine List.forall_mem_cons.mpr ⟨dm_icmp _ _ _, ?_⟩
  refine List.forall_mem_cons.mpr ⟨dm_const _ _, ?_⟩
  refine List.forall_mem_cons.mpr ⟨dm_goto _, ?_⟩
  refine List.forall_mem_cons.mpr ⟨dm_const _ _, ?_⟩
  refine List.forall_mem_cons.mpr ⟨dm_icmp _ _ _, ?_⟩
  refine List.forall_mem_cons.mpr ⟨dm_aload _ _, ?_⟩
  refine List.forall_mem_cons.mpr ⟨dm_getf _ _ _, ?_⟩
  refine List.forall_mem_cons.mpr ⟨dm_const _ _, ?_⟩
  refine List.forall_mem_cons.mpr ⟨dm_iload _ _, ?_⟩
  refine List.forall_mem_cons.mpr ⟨trivial, ?_⟩
  refine List.forall_mem_cons.mpr ⟨dm_const _ _, ?_⟩
  refine List.forall_mem_cons.mpr ⟨trivial, ?_⟩
  refine List.forall_mem_cons.mpr ⟨dm_aload _ _, ?_⟩
  refine List.forall_mem_cons.mpr ⟨dm_getf _ _ _, ?_⟩
  refine List.forall_mem_cons.mpr ⟨dm_const _ _, ?_⟩
  refine List.forall_mem_cons.mpr ⟨trivial, ?_⟩
  refine List.forall_mem_cons.mpr ⟨dm_const _ _, ?_⟩
  refine List.forall_mem_cons.mpr ⟨dm_icmp _ _ _, ?_⟩
  refine List.forall_mem_cons.mpr ⟨dm_aload _ _, ?_⟩
  refine List.forall_mem_cons.mpr ⟨dm_getf _ _ _, ?_⟩
  refine List.forall_mem_cons.mpr ⟨trivial, ?_⟩
  refine List.forall_mem_cons.mpr ⟨dm_const _ _, ?_⟩
  refine List.forall_mem_cons.mpr ⟨trivial, ?_⟩
  refine List.forall_mem_cons.mpr ⟨dm_aload _ _, ?_⟩
  refine List.forall_mem_cons.mpr ⟨dm_getf _ _ _, ?_⟩
  refine List.forall_mem_cons.mpr ⟨dm_const _ _, ?_⟩
  refine List.forall_mem_cons.mpr ⟨trivial, ?_⟩
  refine List.forall_mem_cons.mpr ⟨dm_const _ _, ?_⟩
  refine List.forall_mem_cons.mpr ⟨dm_icmp _ _ _, ?_⟩
  refine List.forall_mem_cons.mpr ⟨dm_aload _ _, ?_⟩
  refine List.forall_mem_cons.mpr ⟨dm_getf _ _ _, ?_⟩
  refine List.forall_mem_cons.mpr ⟨dm_const _ _, ?_⟩
  refine List.forall_mem_cons.mpr ⟨trivial, ?_⟩
  refine List.forall_mem_cons.mpr ⟨dm_const _ _, ?_⟩
  refine List.forall_mem_cons.mpr ⟨dm_icmp _ _ _, ?_⟩
  refine List.forall_mem_cons.mpr ⟨dm_aload _ _, ?_⟩
  refine List.forall_mem_cons.mpr ⟨dm_getf _ _ _, ?_⟩
  refine List.forall_mem_cons.mpr ⟨dm_const _ _, ?_⟩
  refine List.forall_mem_cons.mpr ⟨trivial, ?_⟩
  refine List.forall_mem_cons.mpr ⟨dm_if _ _ _, ?_⟩
  refine List.forall_mem_cons.mpr ⟨dm_aload _ _, ?_⟩
  refine List.forall_mem_cons.mpr ⟨dm_getf _ _ _, ?_⟩
  refine List.forall_mem_cons.mpr ⟨dm_const _ _, ?_⟩
  refine List.forall_mem_cons.mpr ⟨trivial, ?_⟩
  refine List.forall_mem_cons.mpr ⟨dm_if _ _ _, ?_⟩
  refine List.forall_mem_cons.mpr ⟨dm_const _ _, ?_⟩
  refine List.forall_mem_cons.mpr ⟨dm_goto _, ?_⟩
  refine List.forall_mem_cons.mpr ⟨dm_const _ _, ?_⟩
  refine List.forall_mem_cons.mpr ⟨dm_istore _ _, ?_⟩
  refine List.forall_mem_cons.mpr ⟨dm_iload _ _, ?_⟩
  refine List.forall_mem_cons.mpr ⟨dm_if _ _ _, ?_⟩
  refine List.forall_mem_cons.mpr ⟨dm_aload _ _, ?_⟩
  refine List.forall_mem_cons.mpr ⟨dm_getf _ _ _, ?_⟩
  refine List.forall_mem_cons.mpr ⟨dm_const _ _, ?_⟩
  refine List.forall_mem_cons.mpr ⟨dm_aload _ _, ?_⟩
  refine List.forall_mem_cons.mpr ⟨dm_getf _ _ _, ?_⟩
  refine List.forall_mem_cons.mpr ⟨dm_const _ _, ?_⟩
  refine List.forall_mem_cons.mpr ⟨trivial, ?_⟩
  refine List.forall_mem_cons.mpr ⟨dm_if _ _ _, ?_⟩
  refine List.forall_mem_cons.mpr ⟨dm_iload _ _, ?_⟩
  refine List.forall_mem_cons.mpr ⟨trivial, ?_⟩
  refine List.forall_mem_cons.mpr ⟨dm_goto _, ?_⟩
  refine List.forall_mem_cons.mpr ⟨dm_iload _ _, ?_⟩
  refine List.forall_mem_cons.mpr ⟨dm_iload _ _, ?_⟩
  refine List.forall_mem_cons.mpr ⟨trivial, ?_⟩
  refine List.forall_mem_cons.mpr ⟨dm_iload _ _, ?_⟩
  refine List.forall_mem_cons.mpr ⟨trivial, ?_⟩
  exact fun _ h => absurd h List.not_mem_nil
theorem dt_84 : ∀ q ∈ mt_84, dm_E q.2 := by
  refine List.forall_mem_cons.mpr ⟨dm_iload _ _, ?_⟩
  refine List.forall_mem_cons.mpr ⟨dm_const _ _, ?_⟩
  refine List.forall_mem_cons.mpr ⟨dm_icmp _ _ _, ?_⟩
  refine List.forall_mem_cons.mpr ⟨dm_const _ _, ?_⟩
  refine List.forall_mem_cons.mpr ⟨dm_goto _, ?_⟩
  refine List.forall_mem_cons.mpr ⟨dm_const _ _, ?_⟩
  refine List.forall_mem_cons.mpr ⟨trivial, ?_⟩
  exact fun _ h => absurd h List.not_mem_nil
theorem dt_85 : ∀ q ∈ mt_85, dm_E q.2 := by
  refine List.forall_mem_cons.mpr ⟨dm_aload _ _, ?_⟩
  refine List.forall_mem_cons.mpr ⟨dm_getf _ _ _, ?_⟩
  refine List.forall_mem_cons.mpr ⟨dm_const _ _, ?_⟩
  refine List.forall_mem_cons.mpr ⟨trivial, ?_⟩
  refine List.forall_mem_cons.mpr ⟨dm_const _ _, ?_⟩
  refine List.forall_mem_cons.mpr ⟨dm_icmp _ _ _, ?_⟩
  refine List.forall_mem_cons.mpr ⟨dm_const _ _, ?_⟩
  refine List.forall_mem_cons.mpr ⟨dm_goto _, ?_⟩
  refine List.forall_mem_cons.mpr ⟨dm_const _ _, ?_⟩
  refine List.forall_mem_cons.mpr ⟨dm_istore _ _, ?_⟩
  refine List.forall_mem_cons.mpr ⟨dm_iload _ _, ?_⟩
  refine List.forall_mem_cons.mpr ⟨dm_if _ _ _, ?_⟩
  refine List.forall_mem_cons.mpr ⟨dm_const _ _, ?_⟩
  refine List.forall_mem_cons.mpr ⟨dm_goto _, ?_⟩
  refine List.forall_mem_cons.mpr ⟨dm_const _ _, ?_⟩
  refine List.forall_mem_cons.mpr ⟨dm_istore _ _, ?_⟩
  refine List.forall_mem_cons.mpr ⟨dm_aload _ _, ?_⟩
  refine List.forall_mem_cons.mpr ⟨dm_getf _ _ _, ?_⟩
  refine List.forall_mem_cons.mpr ⟨dm_iload _ _, ?_⟩
  refine List.forall_mem_cons.mpr ⟨trivial, ?_⟩
  refine List.forall_mem_cons.mpr ⟨trivial, ?_⟩
  refine List.forall_mem_cons.mpr ⟨dm_if _ _ _, ?_⟩
  refine List.forall_mem_cons.mpr ⟨dm_aload _ _, ?_⟩
  refine List.forall_mem_cons.mpr ⟨dm_getf _ _ _, ?_⟩
  refine List.forall_mem_cons.mpr ⟨dm_iload _ _, ?_⟩
  refine List.forall_mem_cons.mpr ⟨trivial, ?_⟩
  refine List.forall_mem_cons.mpr ⟨dm_iload _ _, ?_⟩
  refine List.forall_mem_cons.mpr ⟨dm_icmp _ _ _, ?_⟩
  refine List.forall_mem_cons.mpr ⟨dm_aload _ _, ?_⟩
  refine List.forall_mem_cons.mpr ⟨dm_getf _ _ _, ?_⟩
  refine List.forall_mem_cons.mpr ⟨dm_iload _ _, ?_⟩
  refine List.forall_mem_cons.mpr ⟨dm_const _ _, ?_⟩
  refine List.forall_mem_cons.mpr ⟨dm_bin _ _, ?_⟩
  refine List.forall_mem_cons.mpr ⟨trivial, ?_⟩
  refine List.forall_mem_cons.mpr ⟨dm_const _ _, ?_⟩
  refine List.forall_mem_cons.mpr ⟨dm_icmp _ _ _, ?_⟩
  refine List.forall_mem_cons.mpr ⟨dm_const _ _, ?_⟩
  refine List.forall_mem_cons.mpr ⟨dm_goto _, ?_⟩
  refine List.forall_mem_cons.mpr ⟨dm_const _ _, ?_⟩
  refine List.forall_mem_cons.mpr ⟨dm_istore _ _, ?_⟩
  refine List.forall_mem_cons.mpr ⟨dm_iload _ _, ?_⟩
  refine List.forall_mem_cons.mpr ⟨dm_if _ _ _, ?_⟩
  refine List.forall_mem_cons.mpr ⟨dm_aload _ _, ?_⟩
  refine List.forall_mem_cons.mpr ⟨dm_getf _ _ _, ?_⟩
  refine List.forall_mem_cons.mpr ⟨dm_const _ _, ?_⟩
  refine List.forall_mem_cons.mpr ⟨trivial, ?_⟩
  refine List.forall_mem_cons.mpr ⟨dm_iload _ _, ?_⟩
  refine List.forall_mem_cons.mpr ⟨dm_icmp _ _ _, ?_⟩
  refine List.forall_mem_cons.mpr ⟨dm_aload _ _, ?_⟩
  refine List.forall_mem_cons.mpr ⟨dm_getf _ _ _, ?_⟩
  refine List.forall_mem_cons.mpr ⟨trivial, ?_⟩
  refine List.forall_mem_cons.mpr ⟨dm_goto _, ?_⟩
  refine List.forall_mem_cons.mpr ⟨dm_iload _ _, ?_⟩
  refine List.forall_mem_cons.mpr ⟨dm_if _ _ _, ?_⟩
  refine List.forall_mem_cons.mpr ⟨dm_iload _ _, ?_⟩
  refine List.forall_mem_cons.mpr ⟨dm_if _ _ _, ?_⟩
  refine List.forall_mem_cons.mpr ⟨dm_aload _ _, ?_⟩
  refine List.forall_mem_cons.mpr ⟨dm_getf _ _ _, ?_⟩
  refine List.forall_mem_cons.mpr ⟨dm_const _ _, ?_⟩
  refine List.forall_mem_cons.mpr ⟨dm_aload _ _, ?_⟩
  refine List.forall_mem_cons.mpr ⟨dm_getf _ _ _, ?_⟩
  refine List.forall_mem_cons.mpr ⟨dm_const _ _, ?_⟩
  refine List.forall_mem_cons.mpr ⟨trivial, ?_⟩
  refine List.forall_mem_cons.mpr ⟨trivial, ?_⟩
  refine List.forall_mem_cons.mpr ⟨dm_aload _ _, ?_⟩
  refine List.forall_mem_cons.mpr ⟨dm_getf _ _ _, ?_⟩
  refine List.forall_mem_cons.mpr ⟨dm_const _ _, ?_⟩
  refine List.forall_mem_cons.mpr ⟨trivial, ?_⟩
  refine List.forall_mem_cons.mpr ⟨trivial, ?_⟩
  refine List.forall_mem_cons.mpr ⟨dm_goto _, ?_⟩
  refine List.forall_mem_cons.mpr ⟨dm_iload _ _, ?_⟩
  refine List.forall_mem_cons.mpr ⟨dm_if _ _ _, ?_⟩
  refine List.forall_mem_cons.mpr ⟨dm_aload _ _, ?_⟩
  refine List.forall_mem_cons.mpr ⟨dm_getf _ _ _, ?_⟩
  refine List.forall_mem_cons.mpr ⟨dm_const _ _, ?_⟩
  refine List.forall_mem_cons.mpr ⟨dm_const _ _, ?_⟩
  refine List.forall_mem_cons.mpr ⟨dm_const _ _, ?_⟩
  refine List.forall_mem_cons.mpr ⟨trivial, ?_⟩
  refine List.forall_mem_cons.mpr ⟨trivial, ?_⟩
  exact fun _ h => absurd h List.not_mem_nil
theorem dt_86 : ∀ q ∈ mt_86, dm_E q.2 := by
  refine List.forall_mem_cons.mpr ⟨dm_aload _ _, ?_⟩
  refine List.forall_mem_cons.mpr ⟨dm_obj _, ?_⟩
  refine List.forall_mem_cons.mpr ⟨dm_aload _ _, ?_⟩
  refine List.forall_mem_cons.mpr ⟨dm_new _ _ _, ?_⟩
  refine List.forall_mem_cons.mpr ⟨dm_dup _, ?_⟩
  refine List.forall_mem_cons.mpr ⟨trivial, ?_⟩
  refine List.forall_mem_cons.mpr ⟨dm_putf _ _ _ _, ?_⟩
  refine List.forall_mem_cons.mpr ⟨dm_aload _ _, ?_⟩
  refine List.forall_mem_cons.mpr ⟨dm_new _ _ _, ?_⟩
  refine List.forall_mem_cons.mpr ⟨dm_dup _, ?_⟩
  refine List.forall_mem_cons.mpr ⟨trivial, ?_⟩
  refine List.forall_mem_cons.mpr ⟨dm_putf _ _ _ _, ?_⟩
  refine List.forall_mem_cons.mpr ⟨dm_aload _ _, ?_⟩
  refine List.forall_mem_cons.mpr ⟨dm_new _ _ _, ?_⟩
  refine List.forall_mem_cons.mpr ⟨dm_dup _, ?_⟩
  refine List.forall_mem_cons.mpr ⟨trivial, ?_⟩
  refine List.forall_mem_cons.mpr ⟨dm_putf _ _ _ _, ?_⟩
  refine List.forall_mem_cons.mpr ⟨trivial, ?_⟩
  exact fun _ h => absurd h List.not_mem_nil
theorem dt_87 : ∀ q ∈ mt_87, dm_E q.2 := by
  refine List.forall_mem_cons.mpr ⟨dm_aload _ _, ?_⟩
  refine List.forall_mem_cons.mpr ⟨dm_getf _ _ _, ?_⟩
  refine List.forall_mem_cons.mpr ⟨dm_const _ _, ?_⟩
  refine List.forall_mem_cons.mpr ⟨trivial, ?_⟩
  refine List.forall_mem_cons.mpr ⟨dm_aload _ _, ?_⟩
  refine List.forall_mem_cons.mpr ⟨dm_const _ _, ?_⟩
  refine List.forall_mem_cons.mpr ⟨trivial, ?_⟩
  refine List.forall_mem_cons.mpr ⟨dm_const _ _, ?_⟩
  refine List.forall_mem_cons.mpr ⟨dm_istore _ _, ?_⟩
  refine List.forall_mem_cons.mpr ⟨dm_iload _ _, ?_⟩
  refine List.forall_mem_cons.mpr ⟨dm_aload _ _, ?_⟩
  refine List.forall_mem_cons.mpr ⟨trivial, ?_⟩
  refine List.forall_mem_cons.mpr ⟨dm_icmp _ _ _, ?_⟩
  refine List.forall_mem_cons.mpr ⟨dm_aload _ _, ?_⟩
  refine List.forall_mem_cons.mpr ⟨dm_iload _ _, ?_⟩
  refine List.forall_mem_cons.mpr ⟨trivial, ?_⟩
  refine List.forall_mem_cons.mpr ⟨dm_istore _ _, ?_⟩
  refine List.forall_mem_cons.mpr ⟨dm_aload _ _, ?_⟩
  refine List.forall_mem_cons.mpr ⟨dm_iload _ _, ?_⟩
  refine List.forall_mem_cons.mpr ⟨trivial, ?_⟩
  refine List.forall_mem_cons.mpr ⟨dm_istore _ _, ?_⟩
  refine List.forall_mem_cons.mpr ⟨dm_iload _ _, ?_⟩
  refine List.forall_mem_cons.mpr ⟨dm_table _ _ _ _, ?_⟩
  refine List.forall_mem_cons.mpr ⟨dm_aload _ _, ?_⟩
  refine List.forall_mem_cons.mpr ⟨dm_const _ _, ?_⟩
  refine List.forall_mem_cons.mpr ⟨dm_iload _ _, ?_⟩
  refine List.forall_mem_cons.mpr ⟨trivial, ?_⟩
  refine List.forall_mem_cons.mpr ⟨dm_goto _, ?_⟩
  refine List.forall_mem_cons.mpr ⟨dm_aload _ _, ?_⟩
  refine List.forall_mem_cons.mpr ⟨dm_const _ _, ?_⟩
  refine List.forall_mem_cons.mpr ⟨dm_iload _ _, ?_⟩
  refine List.forall_mem_cons.mpr ⟨trivial, ?_⟩
  refine List.forall_mem_cons.mpr ⟨dm_goto _, ?_⟩
  refine List.forall_mem_cons.mpr ⟨dm_aload _ _, ?_⟩
  refine List.forall_mem_cons.mpr ⟨dm_iload _ _, ?_⟩
  refine List.forall_mem_cons.mpr ⟨trivial, ?_⟩
  refine List.forall_mem_cons.mpr ⟨dm_goto _, ?_⟩
  refine List.forall_mem_cons.mpr ⟨dm_aload _ _, ?_⟩
  refine List.forall_mem_cons.mpr ⟨dm_const _ _, ?_⟩
  refine List.forall_mem_cons.mpr ⟨trivial, ?_⟩
  refine List.forall_mem_cons.mpr ⟨dm_goto _, ?_⟩
  refine List.forall_mem_cons.mpr ⟨dm_aload _ _, ?_⟩
  refine List.forall_mem_cons.mpr ⟨dm_const _ _, ?_⟩
  refine List.forall_mem_cons.mpr ⟨trivial, ?_⟩
  refine List.forall_mem_cons.mpr ⟨dm_pop _, ?_⟩
  refine List.forall_mem_cons.mpr ⟨dm_aload _ _, ?_⟩
  refine List.forall_mem_cons.mpr ⟨dm_const _ _, ?_⟩
  refine List.forall_mem_cons.mpr ⟨dm_const _ _, ?_⟩
  refine List.forall_mem_cons.mpr ⟨trivial, ?_⟩
  refine List.forall_mem_cons.mpr ⟨dm_aload _ _, ?_⟩
  refine List.forall_mem_cons.mpr ⟨dm_const _ _, ?_⟩
  refine List.forall_mem_cons.mpr ⟨trivial, ?_⟩
  refine List.forall_mem_cons.mpr ⟨dm_goto _, ?_⟩
  refine List.forall_mem_cons.mpr ⟨dm_aload _ _, ?_⟩
  refine List.forall_mem_cons.mpr ⟨dm_const _ _, ?_⟩
  refine List.forall_mem_cons.mpr ⟨trivial, ?_⟩
  refine List.forall_mem_cons.mpr ⟨dm_goto _, ?_⟩
  refine List.forall_mem_cons.mpr ⟨dm_aload _ _, ?_⟩
  refine List.forall_mem_cons.mpr ⟨dm_const _ _, ?_⟩
  refine List.forall_mem_cons.mpr ⟨trivial, ?_⟩
  refine List.forall_mem_cons.mpr ⟨dm_goto _, ?_⟩
  refine List.forall_mem_cons.mpr ⟨dm_aload _ _, ?_⟩
  refine List.forall_mem_cons.mpr ⟨dm_iload _ _, ?_⟩
  refine List.forall_mem_cons.mpr ⟨trivial, ?_⟩
  refine List.forall_mem_cons.mpr ⟨trivial, ?_⟩
  refine List.forall_mem_cons.mpr ⟨dm_pop _, ?_⟩
  refine List.forall_mem_cons.mpr ⟨dm_aload _ _, ?_⟩
  refine List.forall_mem_cons.mpr ⟨dm_const _ _, ?_⟩
  refine List.forall_mem_cons.mpr ⟨dm_iload _ _, ?_⟩
  refine List.forall_mem_cons.mpr ⟨trivial, ?_⟩
  refine List.forall_mem_cons.mpr ⟨dm_aload _ _, ?_⟩
  refine List.forall_mem_cons.mpr ⟨trivial, ?_⟩
  refine List.forall_mem_cons.mpr ⟨dm_goto _, ?_⟩
  refine List.forall_mem_cons.mpr ⟨dm_aload _ _, ?_⟩
  refine List.forall_mem_cons.mpr ⟨dm_iload _ _, ?_⟩
  refine List.forall_mem_cons.mpr ⟨dm_const _ _, ?_⟩
  refine List.forall_mem_cons.mpr ⟨dm_bin _ _, ?_⟩
  refine List.forall_mem_cons.mpr ⟨trivial, ?_⟩
  refine List.forall_mem_cons.mpr ⟨trivial, ?_⟩
  refine List.forall_mem_cons.mpr ⟨dm_if _ _ _, ?_⟩
  refine List.forall_mem_cons.mpr ⟨dm_iinc _ _ _, ?_⟩
  refine List.forall_mem_cons.mpr ⟨dm_aload _ _, ?_⟩
  refine List.forall_mem_cons.mpr ⟨dm_iload _ _, ?_⟩
  refine List.forall_mem_cons.mpr ⟨dm_aload _ _, ?_⟩
  refine List.forall_mem_cons.mpr ⟨dm_iload _ _, ?_⟩
  refine List.forall_mem_cons.mpr ⟨trivial, ?_⟩
  refine List.forall_mem_cons.mpr ⟨dm_aload _ _, ?_⟩
  refine List.forall_mem_cons.mpr ⟨dm_iload _ _, ?_⟩
  refine List.forall_mem_cons.mpr ⟨trivial, ?_⟩
  refine List.forall_mem_cons.mpr ⟨trivial, ?_⟩
  refine List.forall_mem_cons.mpr ⟨dm_goto _, ?_⟩
  refine List.forall_mem_cons.mpr ⟨dm_aload _ _, ?_⟩
  refine List.forall_mem_cons.mpr ⟨dm_const _ _, ?_⟩
  refine List.forall_mem_cons.mpr ⟨dm_aload _ _, ?_⟩
  refine List.forall_mem_cons.mpr ⟨dm_const _ _, ?_⟩
  refine List.forall_mem_cons.mpr ⟨trivial, ?_⟩
  refine List.forall_mem_cons.mpr ⟨dm_if _ _ _, ?_⟩
  refine List.forall_mem_cons.mpr ⟨dm_iload _ _, ?_⟩
  refine List.forall_mem_cons.mpr ⟨trivial, ?_⟩
  refine List.forall_mem_cons.mpr ⟨dm_goto _, ?_⟩
  refine List.forall_mem_cons.mpr ⟨dm_iload _ _, ?_⟩
  refine List.forall_mem_cons.mpr ⟨trivial, ?_⟩
  refine List.forall_mem_cons.mpr ⟨dm_aload _ _, ?_⟩
  refine List.forall_mem_cons.mpr ⟨trivial, ?_⟩
  refine List.forall_mem_cons.mpr ⟨dm_goto _, ?_⟩
  refine List.forall_mem_cons.mpr ⟨dm_aload _ _, ?_⟩
  refine List.forall_mem_cons.mpr ⟨dm_iload _ _, ?_⟩
  refine List.forall_mem_cons.mpr ⟨trivial, ?_⟩
  refine List.forall_mem_cons.mpr ⟨dm_goto _, ?_⟩
  refine List.forall_mem_cons.mpr ⟨dm_aload _ _, ?_⟩
  refine List.forall_mem_cons.mpr ⟨dm_const _ _, ?_⟩
  refine List.forall_mem_cons.mpr ⟨dm_aload _ _, ?_⟩
  refine List.forall_mem_cons.mpr ⟨dm_getf _ _ _, ?_⟩
  refine List.forall_mem_cons.mpr ⟨trivial, ?_⟩
  refine List.forall_mem_cons.mpr ⟨trivial, ?_⟩
  refine List.forall_mem_cons.mpr ⟨dm_aload _ _, ?_⟩
  refine List.forall_mem_cons.mpr ⟨dm_const _ _, ?_⟩
  refine List.forall_mem_cons.mpr ⟨dm_iload _ _, ?_⟩
  refine List.forall_mem_cons.mpr ⟨trivial, ?_⟩
  refine List.forall_mem_cons.mpr ⟨dm_aload _ _, ?_⟩
  refine List.forall_mem_cons.mpr ⟨dm_const _ _, ?_⟩
  refine List.forall_mem_cons.mpr ⟨trivial, ?_⟩
  refine List.forall_mem_cons.mpr ⟨dm_goto _, ?_⟩
  refine List.forall_mem_cons.mpr ⟨dm_aload _ _, ?_⟩
  refine List.forall_mem_cons.mpr ⟨dm_const _ _, ?_⟩
  refine List.forall_mem_cons.mpr ⟨dm_iload _ _, ?_⟩
  refine List.forall_mem_cons.mpr ⟨trivial, ?_⟩
  refine List.forall_mem_cons.mpr ⟨dm_goto _, ?_⟩
  refine List.forall_mem_cons.mpr ⟨dm_aload _ _, ?_⟩
  refine List.forall_mem_cons.mpr ⟨dm_const _ _, ?_⟩
  refine List.forall_mem_cons.mpr ⟨dm_iload _ _, ?_⟩
  refine List.forall_mem_cons.mpr ⟨trivial, ?_⟩
  refine List.forall_mem_cons.mpr ⟨dm_goto _, ?_⟩
  refine List.forall_mem_cons.mpr ⟨dm_aload _ _, ?_⟩
  refine List.forall_mem_cons.mpr ⟨dm_const _ _, ?_⟩
  refine List.forall_mem_cons.mpr ⟨dm_aload _ _, ?_⟩
  refine List.forall_mem_cons.mpr ⟨dm_getf _ _ _, ?_⟩
  refine List.forall_mem_cons.mpr ⟨trivial, ?_⟩
  refine List.forall_mem_cons.mpr ⟨trivial, ?_⟩
  refine List.forall_mem_cons.mpr ⟨dm_aload _ _, ?_⟩
  refine List.forall_mem_cons.mpr ⟨dm_const _ _, ?_⟩
  refine List.forall_mem_cons.mpr ⟨dm_iload _ _, ?_⟩
  refine List.forall_mem_cons.mpr ⟨trivial, ?_⟩
  refine List.forall_mem_cons.mpr ⟨dm_aload _ _, ?_⟩
  refine List.forall_mem_cons.mpr ⟨dm_aload _ _, ?_⟩
  refine List.forall_mem_cons.mpr ⟨dm_iload _ _, ?_⟩
  refine List.forall_mem_cons.mpr ⟨trivial, ?_⟩
  refine List.forall_mem_cons.mpr ⟨trivial, ?_⟩
  refine List.forall_mem_cons.mpr ⟨dm_goto _, ?_⟩
  refine List.forall_mem_cons.mpr ⟨dm_aload _ _, ?_⟩
  refine List.forall_mem_cons.mpr ⟨dm_const _ _, ?_⟩
  refine List.forall_mem_cons.mpr ⟨trivial, ?_⟩
  refine List.forall_mem_cons.mpr ⟨dm_goto _, ?_⟩
  refine List.forall_mem_cons.mpr ⟨dm_aload _ _, ?_⟩
  refine List.forall_mem_cons.mpr ⟨dm_const _ _, ?_⟩
  refine List.forall_mem_cons.mpr ⟨dm_const _ _, ?_⟩
  refine List.forall_mem_cons.mpr ⟨trivial, ?_⟩
  refine List.forall_mem_cons.mpr ⟨dm_goto _, ?_⟩
  refine List.forall_mem_cons.mpr ⟨dm_aload _ _, ?_⟩
  refine List.forall_mem_cons.mpr ⟨dm_aload _ _, ?_⟩
  refine List.forall_mem_cons.mpr ⟨dm_getf _ _ _, ?_⟩
  refine List.forall_mem_cons.mpr ⟨trivial, ?_⟩
  refine List.forall_mem_cons.mpr ⟨dm_const _ _, ?_⟩
  refine List.forall_mem_cons.mpr ⟨dm_bin _ _, ?_⟩
  refine List.forall_mem_cons.mpr ⟨trivial, ?_⟩
  refine List.forall_mem_cons.mpr ⟨dm_aload _ _, ?_⟩
  refine List.forall_mem_cons.mpr ⟨dm_const _ _, ?_⟩
  refine List.forall_mem_cons.mpr ⟨dm_const _ _, ?_⟩
  refine List.forall_mem_cons.mpr ⟨trivial, ?_⟩
  refine List.forall_mem_cons.mpr ⟨dm_aload _ _, ?_⟩
  refine List.forall_mem_cons.mpr ⟨dm_const _ _, ?_⟩
  refine List.forall_mem_cons.mpr ⟨trivial, ?_⟩
  refine List.forall_mem_cons.mpr ⟨dm_goto _, ?_⟩
  refine List.forall_mem_cons.mpr ⟨dm_aload _ _, ?_⟩
  refine List.forall_mem_cons.mpr ⟨dm_const _ _, ?_⟩
  refine List.forall_mem_cons.mpr ⟨dm_const _ _, ?_⟩
  refine List.forall_mem_cons.mpr ⟨trivial, ?_⟩
  refine List.forall_mem_cons.mpr ⟨dm_aload _ _, ?_⟩
  refine List.forall_mem_cons.mpr ⟨dm_const _ _, ?_⟩
  refine List.forall_mem_cons.mpr ⟨trivial, ?_⟩
  refine List.forall_mem_cons.mpr ⟨dm_goto _, ?_⟩
  refine List.forall_mem_cons.mpr ⟨dm_iinc _ _ _, ?_⟩
  refine List.forall_mem_cons.mpr ⟨dm_aload _ _, ?_⟩
  refine List.forall_mem_cons.mpr ⟨dm_iload _ _, ?_⟩
  refine List.forall_mem_cons.mpr ⟨dm_aload _ _, ?_⟩
  refine List.forall_mem_cons.mpr ⟨dm_iload _ _, ?_⟩
  refine List.forall_mem_cons.mpr ⟨trivial, ?_⟩
  refine List.forall_mem_cons.mpr ⟨trivial, ?_⟩
  refine List.forall_mem_cons.mpr ⟨dm_goto _, ?_⟩
  refine List.forall_mem_cons.mpr ⟨dm_aload _ _, ?_⟩
  refine List.forall_mem_cons.mpr ⟨dm_const _ _, ?_⟩
  refine List.forall_mem_cons.mpr ⟨trivial, ?_⟩
  refine List.forall_mem_cons.mpr ⟨dm_pop _, ?_⟩
  refine List.forall_mem_cons.mpr ⟨dm_aload _ _, ?_⟩
  refine List.forall_mem_cons.mpr ⟨dm_const _ _, ?_⟩
  refine List.forall_mem_cons.mpr ⟨dm_const _ _, ?_⟩
  refine List.forall_mem_cons.mpr ⟨trivial, ?_⟩
  refine List.forall_mem_cons.mpr ⟨dm_aload _ _, ?_⟩
  refine List.forall_mem_cons.mpr ⟨trivial, ?_⟩
  refine List.forall_mem_cons.mpr ⟨dm_goto _, ?_⟩
  refine List.forall_mem_cons.mpr ⟨dm_aload _ _, ?_⟩
  refine List.forall_mem_cons.mpr ⟨trivial, ?_⟩
  refine List.forall_mem_cons.mpr ⟨dm_goto _, ?_⟩
  refine List.forall_mem_cons.mpr ⟨dm_iinc _ _ _, ?_⟩
  refine List.forall_mem_cons.mpr ⟨dm_goto _, ?_⟩
  refine List.forall_mem_cons.mpr ⟨dm_aload _ _, ?_⟩
  refine List.forall_mem_cons.mpr ⟨dm_getf _ _ _, ?_⟩
  refine List.forall_mem_cons.mpr ⟨trivial, ?_⟩
  exact fun _ h => absurd h List.not_mem_nil
theorem dt_88 : ∀ q ∈ mt_88, dm_E q.2 := by
  refine List.forall_mem_cons.mpr ⟨dm_iload _ _, ?_⟩
  refine List.forall_mem_cons.mpr ⟨dm_const _ _, ?_⟩
  refine List.forall_mem_cons.mpr ⟨dm_icmp _ _ _, ?_⟩
  refine List.forall_mem_cons.mpr ⟨dm_iload _ _, ?_⟩
  refine List.forall_mem_cons.mpr ⟨dm_const _ _, ?_⟩
  refine List.forall_mem_cons.mpr ⟨dm_icmp _ _ _, ?_⟩
  refine List.forall_mem_cons.mpr ⟨dm_aload _ _, ?_⟩
  refine List.forall_mem_cons.mpr ⟨dm_getf _ _ _, ?_⟩
  refine List.forall_mem_cons.mpr ⟨dm_iload _ _, ?_⟩
  refine List.forall_mem_cons.mpr ⟨dm_const _ _, ?_⟩
  refine List.forall_mem_cons.mpr ⟨dm_bin _ _, ?_⟩
  refine List.forall_mem_cons.mpr ⟨dm_iload _ _, ?_⟩
  refine List.forall_mem_cons.mpr ⟨dm_bin _ _, ?_⟩
  refine List.forall_mem_cons.mpr ⟨trivial, ?_⟩
  refine List.forall_mem_cons.mpr ⟨dm_goto _, ?_⟩
  refine List.forall_mem_cons.mpr ⟨dm_aload _ _, ?_⟩
  refine List.forall_mem_cons.mpr ⟨dm_getf _ _ _, ?_⟩
  refine List.forall_mem_cons.mpr ⟨dm_const _ _, ?_⟩
  refine List.forall_mem_cons.mpr ⟨dm_iload _ _, ?_⟩
  refine List.forall_mem_cons.mpr ⟨dm_bin _ _, ?_⟩
  refine List.forall_mem_cons.mpr ⟨trivial, ?_⟩
  refine List.forall_mem_cons.mpr ⟨dm_aload _ _, ?_⟩
  refine List.forall_mem_cons.mpr ⟨dm_getf _ _ _, ?_⟩
  refine List.forall_mem_cons.mpr ⟨dm_iload _ _, ?_⟩
  refine List.forall_mem_cons.mpr ⟨trivial, ?_⟩
  refine List.forall_mem_cons.mpr ⟨trivial, ?_⟩
  exact fun _ h => absurd h List.not_mem_nil
theorem dt_89 : ∀ q ∈ mt_89, dm_E q.2 := by
  refine List.forall_mem_cons.mpr ⟨dm_aload _ _, ?_⟩
  refine List.forall_mem_cons.mpr ⟨dm_getf _ _ _, ?_⟩
  refine List.forall_mem_cons.mpr ⟨dm_iload _ _, ?_⟩
  refine List.forall_mem_cons.mpr ⟨dm_const _ _, ?_⟩
  refine List.forall_mem_cons.mpr ⟨trivial, ?_⟩
  refine List.forall_mem_cons.mpr ⟨dm_aload _ _, ?_⟩
  refine List.forall_mem_cons.mpr ⟨dm_getf _ _ _, ?_⟩
  refine List.forall_mem_cons.mpr ⟨dm_iload _ _, ?_⟩
  refine List.forall_mem_cons.mpr ⟨dm_const _ _, ?_⟩
  refine List.forall_mem_cons.mpr ⟨trivial, ?_⟩
  refine List.forall_mem_cons.mpr ⟨dm_aload _ _, ?_⟩
  refine List.forall_mem_cons.mpr ⟨dm_const _ _, ?_⟩
  refine List.forall_mem_cons.mpr ⟨dm_putf _ _ _ _, ?_⟩
  refine List.forall_mem_cons.mpr ⟨dm_aload _ _, ?_⟩
  refine List.forall_mem_cons.mpr ⟨dm_const _ _, ?_⟩
  refine List.forall_mem_cons.mpr ⟨dm_putf _ _ _ _, ?_⟩
  refine List.forall_mem_cons.mpr ⟨trivial, ?_⟩
  exact fun _ h => absurd h List.not_mem_nil
theorem dt_90 : ∀ q ∈ mt_90, dm_E q.2 := by
  refine List.forall_mem_cons.mpr ⟨dm_aload _ _, ?_⟩
  refine List.forall_mem_cons.mpr ⟨dm_getf _ _ _, ?_⟩
  refine List.forall_mem_cons.mpr ⟨dm_iload _ _, ?_⟩
  refine List.forall_mem_cons.mpr ⟨trivial, ?_⟩
  refine List.forall_mem_cons.mpr ⟨dm_aload _ _, ?_⟩
  refine List.forall_mem_cons.mpr ⟨dm_getf _ _ _, ?_⟩
  refine List.forall_mem_cons.mpr ⟨dm_iload _ _, ?_⟩
  refine List.forall_mem_cons.mpr ⟨trivial, ?_⟩
  refine List.forall_mem_cons.mpr ⟨trivial, ?_⟩
  exact fun _ h => absurd h List.not_mem_nil
theorem dt_91 : ∀ q ∈ mt_91, dm_E q.2 := by
  refine List.forall_mem_cons.mpr ⟨dm_aload _ _, ?_⟩
  refine List.forall_mem_cons.mpr ⟨dm_getf _ _ _, ?_⟩
  refine List.forall_mem_cons.mpr ⟨dm_aload _ _, ?_⟩
  refine List.forall_mem_cons.mpr ⟨dm_getf _ _ _, ?_⟩
  refine List.forall_mem_cons.mpr ⟨trivial, ?_⟩
  refine List.forall_mem_cons.mpr ⟨dm_iload _ _, ?_⟩
  refine List.forall_mem_cons.mpr ⟨dm_bin _ _, ?_⟩
  refine List.forall_mem_cons.mpr ⟨trivial, ?_⟩
  refine List.forall_mem_cons.mpr ⟨dm_aload _ _, ?_⟩
  refine List.forall_mem_cons.mpr ⟨dm_getf _ _ _, ?_⟩
  refine List.forall_mem_cons.mpr ⟨dm_aload _ _, ?_⟩
  refine List.forall_mem_cons.mpr ⟨dm_getf _ _ _, ?_⟩
  refine List.forall_mem_cons.mpr ⟨trivial, ?_⟩
  refine List.forall_mem_cons.mpr ⟨dm_iload _ _, ?_⟩
  refine List.forall_mem_cons.mpr ⟨dm_bin _ _, ?_⟩
  refine List.forall_mem_cons.mpr ⟨trivial, ?_⟩
  refine List.forall_mem_cons.mpr ⟨dm_aload _ _, ?_⟩
  refine List.forall_mem_cons.mpr ⟨dm_aload _ _, ?_⟩
  refine List.forall_mem_cons.mpr ⟨dm_getf _ _ _, ?_⟩
  refine List.forall_mem_cons.mpr ⟨dm_aload _ _, ?_⟩
  refine List.forall_mem_cons.mpr ⟨dm_getf _ _ _, ?_⟩
  refine List.forall_mem_cons.mpr ⟨trivial, ?_⟩
  refine List.forall_mem_cons.mpr ⟨dm_icmp _ _ _, ?_⟩
  refine List.forall_mem_cons.mpr ⟨dm_aload _ _, ?_⟩
  refine List.forall_mem_cons.mpr ⟨dm_getf _ _ _, ?_⟩
  refine List.forall_mem_cons.mpr ⟨dm_goto _, ?_⟩
  refine List.forall_mem_cons.mpr ⟨dm_const _ _, ?_⟩
  refine List.forall_mem_cons.mpr ⟨dm_putf _ _ _ _, ?_⟩
  refine List.forall_mem_cons.mpr ⟨dm_aload _ _, ?_⟩
  refine List.forall_mem_cons.mpr ⟨dm_aload _ _, ?_⟩
  refine List.forall_mem_cons.mpr ⟨dm_getf _ _ _, ?_⟩
  refine List.forall_mem_cons.mpr ⟨dm_aload _ _, ?_⟩
  refine List.forall_mem_cons.mpr ⟨dm_getf _ _ _, ?_⟩
  refine List.forall_mem_cons.mpr ⟨trivial, ?_⟩
  refine List.forall_mem_cons.mpr ⟨dm_icmp _ _ _, ?_⟩
  refine List.forall_mem_cons.mpr ⟨dm_aload _ _, ?_⟩
  refine List.forall_mem_cons.mpr ⟨dm_getf _ _ _, ?_⟩
  refine List.forall_mem_cons.mpr ⟨dm_goto _, ?_⟩
  refine List.forall_mem_cons.mpr ⟨dm_const _ _, ?_⟩
  refine List.forall_mem_cons.mpr ⟨dm_putf _ _ _ _, ?_⟩
  refine List.forall_mem_cons.mpr ⟨trivial, ?_⟩
  exact fun _ h => absurd h List.not_mem_nil
theorem dt_92 : ∀ q ∈ mt_92, dm_E q.2 := by
  refine List.forall_mem_cons.mpr ⟨dm_aload _ _, ?_⟩
  refine List.forall_mem_cons.mpr ⟨dm_const _ _, ?_⟩
  refine List.forall_mem_cons.mpr ⟨trivial, ?_⟩
  refine List.forall_mem_cons.mpr ⟨dm_aload _ _, ?_⟩
  refine List.forall_mem_cons.mpr ⟨dm_const _ _, ?_⟩
  refine List.forall_mem_cons.mpr ⟨dm_const _ _, ?_⟩
  refine List.forall_mem_cons.mpr ⟨trivial, ?_⟩
  refine List.forall_mem_cons.mpr ⟨dm_aload _ _, ?_⟩
  refine List.forall_mem_cons.mpr ⟨dm_aload _ _, ?_⟩
  refine List.forall_mem_cons.mpr ⟨dm_getf _ _ _, ?_⟩
  refine List.forall_mem_cons.mpr ⟨trivial, ?_⟩
  refine List.forall_mem_cons.mpr ⟨dm_const _ _, ?_⟩
  refine List.forall_mem_cons.mpr ⟨dm_bin _ _, ?_⟩
  refine List.forall_mem_cons.mpr ⟨dm_putf _ _ _ _, ?_⟩
  refine List.forall_mem_cons.mpr ⟨trivial, ?_⟩
  exact fun _ h => absurd h List.not_mem_nil
theorem dt_93 : ∀ q ∈ mt_93, dm_E q.2 := by
  refine List.forall_mem_cons.mpr ⟨dm_aload _ _, ?_⟩
  refine List.forall_mem_cons.mpr ⟨dm_getf _ _ _, ?_⟩
  refine List.forall_mem_cons.mpr ⟨dm_iload _ _, ?_⟩
  refine List.forall_mem_cons.mpr ⟨dm_icmp _ _ _, ?_⟩
  refine List.forall_mem_cons.mpr ⟨trivial, ?_⟩
  refine List.forall_mem_cons.mpr ⟨dm_aload _ _, ?_⟩
  refine List.forall_mem_cons.mpr ⟨dm_getf _ _ _, ?_⟩
  refine List.forall_mem_cons.mpr ⟨dm_iload _ _, ?_⟩
  refine List.forall_mem_cons.mpr ⟨dm_icmp _ _ _, ?_⟩
  refine List.forall_mem_cons.mpr ⟨dm_aload _ _, ?_⟩
  refine List.forall_mem_cons.mpr ⟨dm_const _ _, ?_⟩
  refine List.forall_mem_cons.mpr ⟨dm_const _ _, ?_⟩
  refine List.forall_mem_cons.mpr ⟨trivial, ?_⟩
  refine List.forall_mem_cons.mpr ⟨dm_goto _, ?_⟩
  refine List.forall_mem_cons.mpr ⟨dm_aload _ _, ?_⟩
  refine List.forall_mem_cons.mpr ⟨dm_getf _ _ _, ?_⟩
  refine List.forall_mem_cons.mpr ⟨dm_const _ _, ?_⟩
  refine List.forall_mem_cons.mpr ⟨dm_icmp _ _ _, ?_⟩
  refine List.forall_mem_cons.mpr ⟨dm_aload _ _, ?_⟩
  refine List.forall_mem_cons.mpr ⟨dm_const _ _, ?_⟩
  refine List.forall_mem_cons.mpr ⟨dm_aload _ _, ?_⟩
  refine List.forall_mem_cons.mpr ⟨dm_getf _ _ _, ?_⟩
  refine List.forall_mem_cons.mpr ⟨trivial, ?_⟩
  refine List.forall_mem_cons.mpr ⟨dm_aload _ _, ?_⟩
  refine List.forall_mem_cons.mpr ⟨dm_getf _ _ _, ?_⟩
  refine List.forall_mem_cons.mpr ⟨dm_aload _ _, ?_⟩
  refine List.forall_mem_cons.mpr ⟨dm_getf _ _ _, ?_⟩
  refine List.forall_mem_cons.mpr ⟨dm_const _ _, ?_⟩
  refine List.forall_mem_cons.mpr ⟨trivial, ?_⟩
  refine List.forall_mem_cons.mpr ⟨dm_aload _ _, ?_⟩
  refine List.forall_mem_cons.mpr ⟨dm_getf _ _ _, ?_⟩
  refine List.forall_mem_cons.mpr ⟨dm_iload _ _, ?_⟩
  refine List.forall_mem_cons.mpr ⟨trivial, ?_⟩
  refine List.forall_mem_cons.mpr ⟨dm_istore _ _, ?_⟩
  refine List.forall_mem_cons.mpr ⟨dm_iload _ _, ?_⟩
  refine List.forall_mem_cons.mpr ⟨dm_if _ _ _, ?_⟩
  refine List.forall_mem_cons.mpr ⟨dm_aload _ _, ?_⟩
  refine List.forall_mem_cons.mpr ⟨dm_const _ _, ?_⟩
  refine List.forall_mem_cons.mpr ⟨dm_iload _ _, ?_⟩
  refine List.forall_mem_cons.mpr ⟨trivial, ?_⟩
  refine List.forall_mem_cons.mpr ⟨dm_goto _, ?_⟩
  refine List.forall_mem_cons.mpr ⟨dm_aload _ _, ?_⟩
  refine List.forall_mem_cons.mpr ⟨dm_iload _ _, ?_⟩
  refine List.forall_mem_cons.mpr ⟨dm_const _ _, ?_⟩
  refine List.forall_mem_cons.mpr ⟨dm_icmp _ _ _, ?_⟩
  refine List.forall_mem_cons.mpr ⟨dm_const _ _, ?_⟩
  refine List.forall_mem_cons.mpr ⟨dm_goto _, ?_⟩
  refine List.forall_mem_cons.mpr ⟨dm_const _ _, ?_⟩
  refine List.forall_mem_cons.mpr ⟨dm_aload _ _, ?_⟩
  refine List.forall_mem_cons.mpr ⟨dm_getf _ _ _, ?_⟩
  refine List.forall_mem_cons.mpr ⟨dm_iload _ _, ?_⟩
  refine List.forall_mem_cons.mpr ⟨trivial, ?_⟩
  refine List.forall_mem_cons.mpr ⟨trivial, ?_⟩
  refine List.forall_mem_cons.mpr ⟨dm_aload _ _, ?_⟩
  refine List.forall_mem_cons.mpr ⟨dm_getf _ _ _, ?_⟩
  refine List.forall_mem_cons.mpr ⟨dm_iload _ _, ?_⟩
  refine List.forall_mem_cons.mpr ⟨dm_const _ _, ?_⟩
  refine List.forall_mem_cons.mpr ⟨trivial, ?_⟩
  refine List.forall_mem_cons.mpr ⟨dm_aload _ _, ?_⟩
  refine List.forall_mem_cons.mpr ⟨dm_aload _ _, ?_⟩
  refine List.forall_mem_cons.mpr ⟨dm_getf _ _ _, ?_⟩
  refine List.forall_mem_cons.mpr ⟨dm_putf _ _ _ _, ?_⟩
  refine List.forall_mem_cons.mpr ⟨dm_aload _ _, ?_⟩
  refine List.forall_mem_cons.mpr ⟨dm_iload _ _, ?_⟩
  refine List.forall_mem_cons.mpr ⟨dm_putf _ _ _ _, ?_⟩
  refine List.forall_mem_cons.mpr ⟨trivial, ?_⟩
  exact fun _ h => absurd h List.not_mem_nil
theorem dt_94 : ∀ q ∈ mt_94, dm_E q.2 := by
  refine List.forall_mem_cons.mpr ⟨dm_iload _ _, ?_⟩
  refine List.forall_mem_cons.mpr ⟨dm_istore _ _, ?_⟩
  refine List.forall_mem_cons.mpr ⟨dm_iload _ _, ?_⟩
  refine List.forall_mem_cons.mpr ⟨dm_iload _ _, ?_⟩
  refine List.forall_mem_cons.mpr ⟨dm_icmp _ _ _, ?_⟩
  refine List.forall_mem_cons.mpr ⟨dm_aload _ _, ?_⟩
  refine List.forall_mem_cons.mpr ⟨dm_getf _ _ _, ?_⟩
  refine List.forall_mem_cons.mpr ⟨dm_iload _ _, ?_⟩
  refine List.forall_mem_cons.mpr ⟨trivial, ?_⟩
  refine List.forall_mem_cons.mpr ⟨dm_if _ _ _, ?_⟩
  refine List.forall_mem_cons.mpr ⟨dm_goto _, ?_⟩
  refine List.forall_mem_cons.mpr ⟨dm_aload _ _, ?_⟩
  refine List.forall_mem_cons.mpr ⟨dm_getf _ _ _, ?_⟩
  refine List.forall_mem_cons.mpr ⟨dm_iload _ _, ?_⟩
  refine List.forall_mem_cons.mpr ⟨dm_icmp _ _ _, ?_⟩
  refine List.forall_mem_cons.mpr ⟨dm_aload _ _, ?_⟩
  refine List.forall_mem_cons.mpr ⟨dm_const _ _, ?_⟩
  refine List.forall_mem_cons.mpr ⟨dm_iload _ _, ?_⟩
  refine List.forall_mem_cons.mpr ⟨trivial, ?_⟩
  refine List.forall_mem_cons.mpr ⟨dm_aload _ _, ?_⟩
  refine List.forall_mem_cons.mpr ⟨dm_const _ _, ?_⟩
  refine List.forall_mem_cons.mpr ⟨dm_putf _ _ _ _, ?_⟩
  refine List.forall_mem_cons.mpr ⟨dm_goto _, ?_⟩
  refine List.forall_mem_cons.mpr ⟨dm_aload _ _, ?_⟩
  refine List.forall_mem_cons.mpr ⟨dm_iload _ _, ?_⟩
  refine List.forall_mem_cons.mpr ⟨trivial, ?_⟩
  refine List.forall_mem_cons.mpr ⟨dm_aload _ _, ?_⟩
  refine List.forall_mem_cons.mpr ⟨dm_const _ _, ?_⟩
  refine List.forall_mem_cons.mpr ⟨dm_iload _ _, ?_⟩
  refine List.forall_mem_cons.mpr ⟨trivial, ?_⟩
  refine List.forall_mem_cons.mpr ⟨dm_aload _ _, ?_⟩
  refine List.forall_mem_cons.mpr ⟨dm_const _ _, ?_⟩
  refine List.forall_mem_cons.mpr ⟨dm_putf _ _ _ _, ?_⟩
  refine List.forall_mem_cons.mpr ⟨dm_aload _ _, ?_⟩
  refine List.forall_mem_cons.mpr ⟨dm_getf _ _ _, ?_⟩
  refine List.forall_mem_cons.mpr ⟨dm_iload _ _, ?_⟩
  refine List.forall_mem_cons.mpr ⟨dm_const _ _, ?_⟩
  refine List.forall_mem_cons.mpr ⟨trivial, ?_⟩
  refine List.forall_mem_cons.mpr ⟨dm_iinc _ _ _, ?_⟩
  refine List.forall_mem_cons.mpr ⟨dm_goto _, ?_⟩
  refine List.forall_mem_cons.mpr ⟨trivial, ?_⟩
  exact fun _ h => absurd h List.not_mem_nil
theorem dt_95 : ∀ q ∈ mt_95, dm_E q.2 := by
  refine List.forall_mem_cons.mpr ⟨dm_aload _ _, ?_⟩
  refine List.forall_mem_cons.mpr ⟨dm_getf _ _ _, ?_⟩
  refine List.forall_mem_cons.mpr ⟨trivial, ?_⟩
  refine List.forall_mem_cons.mpr ⟨dm_const _ _, ?_⟩
  refine List.forall_mem_cons.mpr ⟨dm_bin _ _, ?_⟩
  refine List.forall_mem_cons.mpr ⟨dm_istore _ _, ?_⟩
  refine List.forall_mem_cons.mpr ⟨dm_iload _ _, ?_⟩
  refine List.forall_mem_cons.mpr ⟨dm_const _ _, ?_⟩
  refine List.forall_mem_cons.mpr ⟨dm_bin _ _, ?_⟩
  refine List.forall_mem_cons.mpr ⟨dm_istore _ _, ?_⟩
  refine List.forall_mem_cons.mpr ⟨dm_aload _ _, ?_⟩
  refine List.forall_mem_cons.mpr ⟨dm_getf _ _ _, ?_⟩
  refine List.forall_mem_cons.mpr ⟨dm_iload _ _, ?_⟩
  refine List.forall_mem_cons.mpr ⟨dm_icmp _ _ _, ?_⟩
  refine List.forall_mem_cons.mpr ⟨dm_aload _ _, ?_⟩
  refine List.forall_mem_cons.mpr ⟨dm_getf _ _ _, ?_⟩
  refine List.forall_mem_cons.mpr ⟨dm_iload _ _, ?_⟩
  refine List.forall_mem_cons.mpr ⟨dm_icmp _ _ _, ?_⟩
  refine List.forall_mem_cons.mpr ⟨dm_const _ _, ?_⟩
  refine List.forall_mem_cons.mpr ⟨trivial, ?_⟩
  refine List.forall_mem_cons.mpr ⟨dm_aload _ _, ?_⟩
  refine List.forall_mem_cons.mpr ⟨dm_getf _ _ _, ?_⟩
  refine List.forall_mem_cons.mpr ⟨dm_iload _ _, ?_⟩
  refine List.forall_mem_cons.mpr ⟨dm_icmp _ _ _, ?_⟩
  refine List.forall_mem_cons.mpr ⟨dm_aload _ _, ?_⟩
  refine List.forall_mem_cons.mpr ⟨dm_getf _ _ _, ?_⟩
  refine List.forall_mem_cons.mpr ⟨dm_iload _ _, ?_⟩
  refine List.forall_mem_cons.mpr ⟨dm_icmp _ _ _, ?_⟩
  refine List.forall_mem_cons.mpr ⟨dm_aload _ _, ?_⟩
  refine List.forall_mem_cons.mpr ⟨dm_iload _ _, ?_⟩
  refine List.forall_mem_cons.mpr ⟨trivial, ?_⟩
  refine List.forall_mem_cons.mpr ⟨dm_aload _ _, ?_⟩
  refine List.forall_mem_cons.mpr ⟨dm_iload _ _, ?_⟩
  refine List.forall_mem_cons.mpr ⟨trivial, ?_⟩
  refine List.forall_mem_cons.mpr ⟨dm_const _ _, ?_⟩
  refine List.forall_mem_cons.mpr ⟨trivial, ?_⟩
  refine List.forall_mem_cons.mpr ⟨dm_aload _ _, ?_⟩
  refine List.forall_mem_cons.mpr ⟨dm_getf _ _ _, ?_⟩
  refine List.forall_mem_cons.mpr ⟨dm_iload _ _, ?_⟩
  refine List.forall_mem_cons.mpr ⟨dm_icmp _ _ _, ?_⟩
  refine List.forall_mem_cons.mpr ⟨dm_aload _ _, ?_⟩
  refine List.forall_mem_cons.mpr ⟨dm_iload _ _, ?_⟩
  refine List.forall_mem_cons.mpr ⟨trivial, ?_⟩
  refine List.forall_mem_cons.mpr ⟨dm_aload _ _, ?_⟩
  refine List.forall_mem_cons.mpr ⟨dm_iload _ _, ?_⟩
  refine List.forall_mem_cons.mpr ⟨trivial, ?_⟩
  refine List.forall_mem_cons.mpr ⟨dm_iload _ _, ?_⟩
  refine List.forall_mem_cons.mpr ⟨dm_if _ _ _, ?_⟩
  refine List.forall_mem_cons.mpr ⟨dm_aload _ _, ?_⟩
  refine List.forall_mem_cons.mpr ⟨dm_iload _ _, ?_⟩
  refine List.forall_mem_cons.mpr ⟨trivial, ?_⟩
  refine List.forall_mem_cons.mpr ⟨dm_iload _ _, ?_⟩
  refine List.forall_mem_cons.mpr ⟨trivial, ?_⟩
  exact fun _ h => absurd h List.not_mem_nil
theorem dt_96 : ∀ q ∈ mt_96, dm_E q.2 := by
  refine List.forall_mem_cons.mpr ⟨dm_aload _ _, ?_⟩
  refine List.forall_mem_cons.mpr ⟨dm_aload _ _, ?_⟩
  refine List.forall_mem_cons.mpr ⟨dm_getf _ _ _, ?_⟩
  refine List.forall_mem_cons.mpr ⟨trivial, ?_⟩
  refine List.forall_mem_cons.mpr ⟨dm_const _ _, ?_⟩
  refine List.forall_mem_cons.mpr ⟨dm_bin _ _, ?_⟩
  refine List.forall_mem_cons.mpr ⟨trivial, ?_⟩
  refine List.forall_mem_cons.mpr ⟨dm_aload _ _, ?_⟩
  refine List.forall_mem_cons.mpr ⟨dm_iload _ _, ?_⟩
  refine List.forall_mem_cons.mpr ⟨dm_const _ _, ?_⟩
  refine List.forall_mem_cons.mpr ⟨trivial, ?_⟩
  refine List.forall_mem_cons.mpr ⟨trivial, ?_⟩
  exact fun _ h => absurd h List.not_mem_nil
theorem dt_97 : ∀ q ∈ mt_97, dm_E q.2 := by
  refine List.forall_mem_cons.mpr ⟨dm_aload _ _, ?_⟩
  refine List.forall_mem_cons.mpr ⟨dm_const _ _, ?_⟩
  refine List.forall_mem_cons.mpr ⟨trivial, ?_⟩
  refine List.forall_mem_cons.mpr ⟨dm_if _ _ _, ?_⟩
  refine List.forall_mem_cons.mpr ⟨dm_aload _ _, ?_⟩
  refine List.forall_mem_cons.mpr ⟨dm_const _ _, ?_⟩
  refine List.forall_mem_cons.mpr ⟨dm_iload _ _, ?_⟩
  refine List.forall_mem_cons.mpr ⟨trivial, ?_⟩
  refine List.forall_mem_cons.mpr ⟨trivial, ?_⟩
  refine List.forall_mem_cons.mpr ⟨dm_goto _, ?_⟩
  refine List.forall_mem_cons.mpr ⟨dm_aload _ _, ?_⟩
  refine List.forall_mem_cons.mpr ⟨dm_const _ _, ?_⟩
  refine List.forall_mem_cons.mpr ⟨dm_iload _ _, ?_⟩
  refine List.forall_mem_cons.mpr ⟨trivial, ?_⟩
  refine List.forall_mem_cons.mpr ⟨dm_aload _ _, ?_⟩
  refine List.forall_mem_cons.mpr ⟨dm_aload _ _, ?_⟩
  refine List.forall_mem_cons.mpr ⟨dm_getf _ _ _, ?_⟩
  refine List.forall_mem_cons.mpr ⟨trivial, ?_⟩
  refine List.forall_mem_cons.mpr ⟨dm_const _ _, ?_⟩
  refine List.forall_mem_cons.mpr ⟨dm_bin _ _, ?_⟩
  refine List.forall_mem_cons.mpr ⟨dm_putf _ _ _ _, ?_⟩
  refine List.forall_mem_cons.mpr ⟨dm_aload _ _, ?_⟩
  refine List.forall_mem_cons.mpr ⟨dm_aload _ _, ?_⟩
  refine List.forall_mem_cons.mpr ⟨dm_getf _ _ _, ?_⟩
  refine List.forall_mem_cons.mpr ⟨dm_const _ _, ?_⟩
  refine List.forall_mem_cons.mpr ⟨dm_bin _ _, ?_⟩
  refine List.forall_mem_cons.mpr ⟨dm_putf _ _ _ _, ?_⟩
  refine List.forall_mem_cons.mpr ⟨trivial, ?_⟩
  exact fun _ h => absurd h List.not_mem_nil
theorem dt_98 : ∀ q ∈ mt_98, dm_E q.2 := by
  refine List.forall_mem_cons.mpr ⟨dm_aload _ _, ?_⟩
  refine List.forall_mem_cons.mpr ⟨dm_getf _ _ _, ?_⟩
  refine List.forall_mem_cons.mpr ⟨trivial, ?_⟩
  refine List.forall_mem_cons.mpr ⟨dm_const _ _, ?_⟩
  refine List.forall_mem_cons.mpr ⟨dm_bin _ _, ?_⟩
  refine List.forall_mem_cons.mpr ⟨dm_istore _ _, ?_⟩
  refine List.forall_mem_cons.mpr ⟨dm_const _ _, ?_⟩
  refine List.forall_mem_cons.mpr ⟨dm_istore _ _, ?_⟩
  refine List.forall_mem_cons.mpr ⟨dm_iload _ _, ?_⟩
  refine List.forall_mem_cons.mpr ⟨dm_iload _ _, ?_⟩
  refine List.forall_mem_cons.mpr ⟨dm_icmp _ _ _, ?_⟩
  refine List.forall_mem_cons.mpr ⟨dm_aload _ _, ?_⟩
  refine List.forall_mem_cons.mpr ⟨dm_getf _ _ _, ?_⟩
  refine List.forall_mem_cons.mpr ⟨dm_iload _ _, ?_⟩
  refine List.forall_mem_cons.mpr ⟨trivial, ?_⟩
  refine List.forall_mem_cons.mpr ⟨dm_const _ _, ?_⟩
  refine List.forall_mem_cons.mpr ⟨dm_icmp _ _ _, ?_⟩
  refine List.forall_mem_cons.mpr ⟨dm_aload _ _, ?_⟩
  refine List.forall_mem_cons.mpr ⟨dm_getf _ _ _, ?_⟩
  refine List.forall_mem_cons.mpr ⟨dm_iload _ _, ?_⟩
  refine List.forall_mem_cons.mpr ⟨trivial, ?_⟩
  refine List.forall_mem_cons.mpr ⟨dm_iload _ _, ?_⟩
  refine List.forall_mem_cons.mpr ⟨dm_icmp _ _ _, ?_⟩
  refine List.forall_mem_cons.mpr ⟨dm_aload _ _, ?_⟩
  refine List.forall_mem_cons.mpr ⟨dm_iload _ _, ?_⟩
  refine List.forall_mem_cons.mpr ⟨dm_iload _ _, ?_⟩
  refine List.forall_mem_cons.mpr ⟨dm_const _ _, ?_⟩
  refine List.forall_mem_cons.mpr ⟨dm_bin _ _, ?_⟩
  refine List.forall_mem_cons.mpr ⟨trivial, ?_⟩
  refine List.forall_mem_cons.mpr ⟨dm_iinc _ _ _, ?_⟩
  refine List.forall_mem_cons.mpr ⟨dm_goto _, ?_⟩
  refine List.forall_mem_cons.mpr ⟨dm_aload _ _, ?_⟩
  refine List.forall_mem_cons.mpr ⟨dm_iload _ _, ?_⟩
  refine List.forall_mem_cons.mpr ⟨trivial, ?_⟩
  refine List.forall_mem_cons.mpr ⟨dm_aload _ _, ?_⟩
  refine List.forall_mem_cons.mpr ⟨dm_const _ _, ?_⟩
  refine List.forall_mem_cons.mpr ⟨dm_iload _ _, ?_⟩
  refine List.forall_mem_cons.mpr ⟨trivial, ?_⟩
  refine List.forall_mem_cons.mpr ⟨dm_aload _ _, ?_⟩
  refine List.forall_mem_cons.mpr ⟨dm_const _ _, ?_⟩
  refine List.forall_mem_cons.mpr ⟨trivial, ?_⟩
  refine List.forall_mem_cons.mpr ⟨trivial, ?_⟩
  exact fun _ h => absurd h List.not_mem_nil
theorem dt_99 : ∀ q ∈ mt_99, dm_E q.2 := by
  refine List.forall_mem_cons.mpr ⟨dm_aload _ _, ?_⟩
  refine List.forall_mem_cons.mpr ⟨dm_getf _ _ _, ?_⟩
  refine List.forall_mem_cons.mpr ⟨trivial, ?_⟩
  refine List.forall_mem_cons.mpr ⟨dm_const _ _, ?_⟩
  refine List.forall_mem_cons.mpr ⟨dm_bin _ _, ?_⟩
  refine List.forall_mem_cons.mpr ⟨dm_istore _ _, ?_⟩
  refine List.forall_mem_cons.mpr ⟨dm_aload _ _, ?_⟩
  refine List.forall_mem_cons.mpr ⟨dm_iload _ _, ?_⟩
  refine List.forall_mem_cons.mpr ⟨dm_iload _ _, ?_⟩
  refine List.forall_mem_cons.mpr ⟨dm_const _ _, ?_⟩
  refine List.forall_mem_cons.mpr ⟨dm_bin _ _, ?_⟩
  refine List.forall_mem_cons.mpr ⟨trivial, ?_⟩
  refine List.forall_mem_cons.mpr ⟨dm_aload _ _, ?_⟩
  refine List.forall_mem_cons.mpr ⟨dm_const _ _, ?_⟩
  refine List.forall_mem_cons.mpr ⟨trivial, ?_⟩
  refine List.forall_mem_cons.mpr ⟨dm_pop _, ?_⟩
  refine List.forall_mem_cons.mpr ⟨dm_aload _ _, ?_⟩
  refine List.forall_mem_cons.mpr ⟨dm_const _ _, ?_⟩
  refine List.forall_mem_cons.mpr ⟨dm_iload _ _, ?_⟩
  refine List.forall_mem_cons.mpr ⟨trivial, ?_⟩
  refine List.forall_mem_cons.mpr ⟨dm_aload _ _, ?_⟩
  refine List.forall_mem_cons.mpr ⟨dm_const _ _, ?_⟩
  refine List.forall_mem_cons.mpr ⟨trivial, ?_⟩
  refine List.forall_mem_cons.mpr ⟨trivial, ?_⟩
  exact fun _ h => absurd h List.not_mem_nil
theorem dt_100 : ∀ q ∈ mt_100, dm_E q.2 := by
  refine List.forall_mem_cons.mpr ⟨dm_aload _ _, ?_⟩
  refine List.forall_mem_cons.mpr ⟨dm_getf _ _ _, ?_⟩
  refine List.forall_mem_cons.mpr ⟨trivial, ?_⟩
  refine List.forall_mem_cons.mpr ⟨dm_const _ _, ?_⟩
  refine List.forall_mem_cons.mpr ⟨dm_bin _ _, ?_⟩
  refine List.forall_mem_cons.mpr ⟨dm_istore _ _, ?_⟩
  refine List.forall_mem_cons.mpr ⟨dm_aload _ _, ?_⟩
  refine List.forall_mem_cons.mpr ⟨dm_const _ _, ?_⟩
  refine List.forall_mem_cons.mpr ⟨dm_iload _ _, ?_⟩
  refine List.forall_mem_cons.mpr ⟨trivial, ?_⟩
  refine List.forall_mem_cons.mpr ⟨dm_aload _ _, ?_⟩
  refine List.forall_mem_cons.mpr ⟨dm_iload _ _, ?_⟩
  refine List.forall_mem_cons.mpr ⟨trivial, ?_⟩
  refine List.forall_mem_cons.mpr ⟨dm_aload _ _, ?_⟩
  refine List.forall_mem_cons.mpr ⟨dm_iload _ _, ?_⟩
  refine List.forall_mem_cons.mpr ⟨dm_iload _ _, ?_⟩
  refine List.forall_mem_cons.mpr ⟨trivial, ?_⟩
  refine List.forall_mem_cons.mpr ⟨dm_aload _ _, ?_⟩
  refine List.forall_mem_cons.mpr ⟨dm_const _ _, ?_⟩
  refine List.forall_mem_cons.mpr ⟨trivial, ?_⟩
  refine List.forall_mem_cons.mpr ⟨trivial, ?_⟩
  exact fun _ h => absurd h List.not_mem_nil
theorem dt_101 : ∀ q ∈ mt_101, dm_E q.2 := by
  refine List.forall_mem_cons.mpr ⟨dm_aload _ _, ?_⟩
  refine List.forall_mem_cons.mpr ⟨dm_const _ _, ?_⟩
  refine List.forall_mem_cons.mpr ⟨dm_aload _ _, ?_⟩
  refine List.forall_mem_cons.mpr ⟨dm_getf _ _ _, ?_⟩
  refine List.forall_mem_cons.mpr ⟨trivial, ?_⟩
  refine List.forall_mem_cons.mpr ⟨dm_const _ _, ?_⟩
  refine List.forall_mem_cons.mpr ⟨dm_bin _ _, ?_⟩
  refine List.forall_mem_cons.mpr ⟨trivial, ?_⟩
  refine List.forall_mem_cons.mpr ⟨dm_aload _ _, ?_⟩
  refine List.forall_mem_cons.mpr ⟨dm_const _ _, ?_⟩
  refine List.forall_mem_cons.mpr ⟨trivial, ?_⟩
  refine List.forall_mem_cons.mpr ⟨dm_if _ _ _, ?_⟩
  refine List.forall_mem_cons.mpr ⟨dm_iload _ _, ?_⟩
  refine List.forall_mem_cons.mpr ⟨trivial, ?_⟩
  refine List.forall_mem_cons.mpr ⟨dm_goto _, ?_⟩
  refine List.forall_mem_cons.mpr ⟨dm_iload _ _, ?_⟩
  refine List.forall_mem_cons.mpr ⟨dm_istore _ _, ?_⟩
  refine List.forall_mem_cons.mpr ⟨dm_aload _ _, ?_⟩
  refine List.forall_mem_cons.mpr ⟨dm_const _ _, ?_⟩
  refine List.forall_mem_cons.mpr ⟨dm_iload _ _, ?_⟩
  refine List.forall_mem_cons.mpr ⟨dm_const _ _, ?_⟩
  refine List.forall_mem_cons.mpr ⟨dm_icmp _ _ _, ?_⟩
  refine List.forall_mem_cons.mpr ⟨dm_iload _ _, ?_⟩
  refine List.forall_mem_cons.mpr ⟨trivial, ?_⟩
  refine List.forall_mem_cons.mpr ⟨dm_goto _, ?_⟩
  refine List.forall_mem_cons.mpr ⟨dm_iload _ _, ?_⟩
  refine List.forall_mem_cons.mpr ⟨dm_bin _ _, ?_⟩
  refine List.forall_mem_cons.mpr ⟨dm_iload _ _, ?_⟩
  refine List.forall_mem_cons.mpr ⟨trivial, ?_⟩
  refine List.forall_mem_cons.mpr ⟨dm_aload _ _, ?_⟩
  refine List.forall_mem_cons.mpr ⟨dm_const _ _, ?_⟩
  refine List.forall_mem_cons.mpr ⟨trivial, ?_⟩
  refine List.forall_mem_cons.mpr ⟨trivial, ?_⟩
  exact fun _ h => absurd h List.not_mem_nil
theorem dt_102 : ∀ q ∈ mt_102, dm_E q.2 := by
  refine List.forall_mem_cons.mpr ⟨dm_aload _ _, ?_⟩
  refine List.forall_mem_cons.mpr ⟨dm_getf _ _ _, ?_⟩
  refine List.forall_mem_cons.mpr ⟨trivial, ?_⟩
  refine List.forall_mem_cons.mpr ⟨dm_const _ _, ?_⟩
  refine List.forall_mem_cons.mpr ⟨dm_bin _ _, ?_⟩
  refine List.forall_mem_cons.mpr ⟨dm_istore _ _, ?_⟩
  refine List.forall_mem_cons.mpr ⟨dm_aload _ _, ?_⟩
  refine List.forall_mem_cons.mpr ⟨dm_const _ _, ?_⟩
  refine List.forall_mem_cons.mpr ⟨dm_iload _ _, ?_⟩
  refine List.forall_mem_cons.mpr ⟨trivial, ?_⟩
  refine List.forall_mem_cons.mpr ⟨dm_aload _ _, ?_⟩
  refine List.forall_mem_cons.mpr ⟨dm_iload _ _, ?_⟩
  refine List.forall_mem_cons.mpr ⟨trivial, ?_⟩
  refine List.forall_mem_cons.mpr ⟨dm_aload _ _, ?_⟩
  refine List.forall_mem_cons.mpr ⟨dm_const _ _, ?_⟩
  refine List.forall_mem_cons.mpr ⟨dm_iload _ _, ?_⟩
  refine List.forall_mem_cons.mpr ⟨trivial, ?_⟩
  refine List.forall_mem_cons.mpr ⟨dm_aload _ _, ?_⟩
  refine List.forall_mem_cons.mpr ⟨dm_iload _ _, ?_⟩
  refine List.forall_mem_cons.mpr ⟨dm_putf _ _ _ _, ?_⟩
  refine List.forall_mem_cons.mpr ⟨dm_aload _ _, ?_⟩
  refine List.forall_mem_cons.mpr ⟨dm_const _ _, ?_⟩
  refine List.forall_mem_cons.mpr ⟨dm_putf _ _ _ _, ?_⟩
  refine List.forall_mem_cons.mpr ⟨dm_aload _ _, ?_⟩
  refine List.forall_mem_cons.mpr ⟨dm_const _ _, ?_⟩
  refine List.forall_mem_cons.mpr ⟨dm_iload _ _, ?_⟩
  refine List.forall_mem_cons.mpr ⟨trivial, ?_⟩
  refine List.forall_mem_cons.mpr ⟨trivial, ?_⟩
  exact fun _ h => absurd h List.not_mem_nil
theorem dt_103 : ∀ q ∈ mt_103, dm_E q.2 := by
  refine List.forall_mem_cons.mpr ⟨dm_aload _ _, ?_⟩
  refine List.forall_mem_cons.mpr ⟨dm_obj _, ?_⟩
  refine List.forall_mem_cons.mpr ⟨dm_aload _ _, ?_⟩
  refine List.forall_mem_cons.mpr ⟨dm_new _ _ _, ?_⟩
  refine List.forall_mem_cons.mpr ⟨dm_dup _, ?_⟩
  refine List.forall_mem_cons.mpr ⟨trivial, ?_⟩
  refine List.forall_mem_cons.mpr ⟨dm_putf _ _ _ _, ?_⟩
  refine List.forall_mem_cons.mpr ⟨dm_aload _ _, ?_⟩
  refine List.forall_mem_cons.mpr ⟨dm_new _ _ _, ?_⟩
  refine List.forall_mem_cons.mpr ⟨dm_dup _, ?_⟩
  refine List.forall_mem_cons.mpr ⟨dm_aload _ _, ?_⟩
  refine List.forall_mem_cons.mpr ⟨dm_getf _ _ _, ?_⟩
  refine List.forall_mem_cons.mpr ⟨trivial, ?_⟩
  refine List.forall_mem_cons.mpr ⟨dm_putf _ _ _ _, ?_⟩
  refine List.forall_mem_cons.mpr ⟨dm_aload _ _, ?_⟩
  refine List.forall_mem_cons.mpr ⟨dm_new _ _ _, ?_⟩
  refine List.forall_mem_cons.mpr ⟨dm_dup _, ?_⟩
  refine List.forall_mem_cons.mpr ⟨trivial, ?_⟩
  refine List.forall_mem_cons.mpr ⟨dm_putf _ _ _ _, ?_⟩
  refine List.forall_mem_cons.mpr ⟨dm_aload _ _, ?_⟩
  refine List.forall_mem_cons.mpr ⟨dm_new _ _ _, ?_⟩
  refine List.forall_mem_cons.mpr ⟨dm_dup _, ?_⟩
  refine List.forall_mem_cons.mpr ⟨trivial, ?_⟩
  refine List.forall_mem_cons.mpr ⟨dm_putf _ _ _ _, ?_⟩
  refine List.forall_mem_cons.mpr ⟨dm_aload _ _, ?_⟩
  refine List.forall_mem_cons.mpr ⟨dm_new _ _ _, ?_⟩
  refine List.forall_mem_cons.mpr ⟨dm_dup _, ?_⟩
  refine List.forall_mem_cons.mpr ⟨trivial, ?_⟩
  refine List.forall_mem_cons.mpr ⟨dm_putf _ _ _ _, ?_⟩
  refine List.forall_mem_cons.mpr ⟨dm_aload _ _, ?_⟩
  refine List.forall_mem_cons.mpr ⟨dm_new _ _ _, ?_⟩
  refine List.forall_mem_cons.mpr ⟨dm_dup _, ?_⟩
  refine List.forall_mem_cons.mpr ⟨trivial, ?_⟩
  refine List.forall_mem_cons.mpr ⟨dm_putf _ _ _ _, ?_⟩
  refine List.forall_mem_cons.mpr ⟨dm_aload _ _, ?_⟩
  refine List.forall_mem_cons.mpr ⟨dm_new _ _ _, ?_⟩
  refine List.forall_mem_cons.mpr ⟨dm_dup _, ?_⟩
  refine List.forall_mem_cons.mpr ⟨dm_aload _ _, ?_⟩
  refine List.forall_mem_cons.mpr ⟨dm_getf _ _ _, ?_⟩
  refine List.forall_mem_cons.mpr ⟨trivial, ?_⟩
  refine List.forall_mem_cons.mpr ⟨dm_putf _ _ _ _, ?_⟩
  refine List.forall_mem_cons.mpr ⟨trivial, ?_⟩
  exact fun _ h => absurd h List.not_mem_nil
theorem dt_104 : ∀ q ∈ mt_104, dm_E q.2 := by
  refine List.forall_mem_cons.mpr ⟨dm_aload _ _, ?_⟩
  refine List.forall_mem_cons.mpr ⟨dm_getf _ _ _, ?_⟩
  refine List.forall_mem_cons.mpr ⟨trivial, ?_⟩
  refine List.forall_mem_cons.mpr ⟨dm_const _ _, ?_⟩
  refine List.forall_mem_cons.mpr ⟨dm_icmp _ _ _, ?_⟩
  refine List.forall_mem_cons.mpr ⟨dm_const _ _, ?_⟩
  refine List.forall_mem_cons.mpr ⟨trivial, ?_⟩
  refine List.forall_mem_cons.mpr ⟨dm_aload _ _, ?_⟩
  refine List.forall_mem_cons.mpr ⟨dm_getf _ _ _, ?_⟩
  refine List.forall_mem_cons.mpr ⟨dm_iload _ _, ?_⟩
  refine List.forall_mem_cons.mpr ⟨dm_iload _ _, ?_⟩
  refine List.forall_mem_cons.mpr ⟨trivial, ?_⟩
  refine List.forall_mem_cons.mpr ⟨dm_aload _ _, ?_⟩
  refine List.forall_mem_cons.mpr ⟨trivial, ?_⟩
  refine List.forall_mem_cons.mpr ⟨dm_aload _ _, ?_⟩
  refine List.forall_mem_cons.mpr ⟨dm_getf _ _ _, ?_⟩
  refine List.forall_mem_cons.mpr ⟨trivial, ?_⟩
  refine List.forall_mem_cons.mpr ⟨trivial, ?_⟩
  exact fun _ h => absurd h List.not_mem_nil
theorem dt_105 : ∀ q ∈ mt_105, dm_E q.2 := by
  refine List.forall_mem_cons.mpr ⟨dm_aload _ _, ?_⟩
  refine List.forall_mem_cons.mpr ⟨dm_getf _ _ _, ?_⟩
  refine List.forall_mem_cons.mpr ⟨dm_const _ _, ?_⟩
  refine List.forall_mem_cons.mpr ⟨trivial, ?_⟩
  refine List.forall_mem_cons.mpr ⟨dm_aload _ _, ?_⟩
  refine List.forall_mem_cons.mpr ⟨trivial, ?_⟩
  refine List.forall_mem_cons.mpr ⟨trivial, ?_⟩
  exact fun _ h => absurd h List.not_mem_nil
theorem dt_106 : ∀ q ∈ mt_106, dm_E q.2 := by
  refine List.forall_mem_cons.mpr ⟨dm_aload _ _, ?_⟩
  refine List.forall_mem_cons.mpr ⟨dm_getf _ _ _, ?_⟩
  refine List.forall_mem_cons.mpr ⟨trivial, ?_⟩
  refine List.forall_mem_cons.mpr ⟨trivial, ?_⟩
  exact fun _ h => absurd h List.not_mem_nil
theorem dt_107 : ∀ q ∈ mt_107, dm_E q.2 := by
  refine List.forall_mem_cons.mpr ⟨dm_iload _ _, ?_⟩
  refine List.forall_mem_cons.mpr ⟨dm_if _ _ _, ?_⟩
  refine List.forall_mem_cons.mpr ⟨dm_iload _ _, ?_⟩
  refine List.forall_mem_cons.mpr ⟨dm_const _ _, ?_⟩
  refine List.forall_mem_cons.mpr ⟨dm_icmp _ _ _, ?_⟩
  refine List.forall_mem_cons.mpr ⟨dm_aload _ _, ?_⟩
  refine List.forall_mem_cons.mpr ⟨dm_getf _ _ _, ?_⟩
  refine List.forall_mem_cons.mpr ⟨trivial, ?_⟩
  refine List.forall_mem_cons.mpr ⟨dm_if _ _ _, ?_⟩
  refine List.forall_mem_cons.mpr ⟨dm_const _ _, ?_⟩
  refine List.forall_mem_cons.mpr ⟨trivial, ?_⟩
  refine List.forall_mem_cons.mpr ⟨dm_aload _ _, ?_⟩
  refine List.forall_mem_cons.mpr ⟨dm_getf _ _ _, ?_⟩
  refine List.forall_mem_cons.mpr ⟨dm_if _ _ _, ?_⟩
  refine List.forall_mem_cons.mpr ⟨dm_aload _ _, ?_⟩
  refine List.forall_mem_cons.mpr ⟨dm_getf _ _ _, ?_⟩
  refine List.forall_mem_cons.mpr ⟨dm_aload _ _, ?_⟩
  refine List.forall_mem_cons.mpr ⟨dm_getf _ _ _, ?_⟩
  refine List.forall_mem_cons.mpr ⟨dm_aload _ _, ?_⟩
  refine List.forall_mem_cons.mpr ⟨dm_getf _ _ _, ?_⟩
  refine List.forall_mem_cons.mpr ⟨trivial, ?_⟩
  refine List.forall_mem_cons.mpr ⟨dm_astore _ _, ?_⟩
  refine List.forall_mem_cons.mpr ⟨dm_aload _ _, ?_⟩
  refine List.forall_mem_cons.mpr ⟨dm_getf _ _ _, ?_⟩
  refine List.forall_mem_cons.mpr ⟨dm_aload _ _, ?_⟩
  refine List.forall_mem_cons.mpr ⟨dm_getf _ _ _, ?_⟩
  refine List.forall_mem_cons.mpr ⟨dm_aload _ _, ?_⟩
  refine List.forall_mem_cons.mpr ⟨dm_aload _ _, ?_⟩
  refine List.forall_mem_cons.mpr ⟨dm_getf _ _ _, ?_⟩
  refine List.forall_mem_cons.mpr ⟨trivial, ?_⟩
  refine List.forall_mem_cons.mpr ⟨trivial, ?_⟩
  refine List.forall_mem_cons.mpr ⟨dm_aload _ _, ?_⟩
  refine List.forall_mem_cons.mpr ⟨dm_const _ _, ?_⟩
  refine List.forall_mem_cons.mpr ⟨dm_putf _ _ _ _, ?_⟩
  refine List.forall_mem_cons.mpr ⟨dm_aload _ _, ?_⟩
  refine List.forall_mem_cons.mpr ⟨dm_getf _ _ _, ?_⟩
  refine List.forall_mem_cons.mpr ⟨dm_aload _ _, ?_⟩
  refine List.forall_mem_cons.mpr ⟨dm_getf _ _ _, ?_⟩
  refine List.forall_mem_cons.mpr ⟨dm_iload _ _, ?_⟩
  refine List.forall_mem_cons.mpr ⟨trivial, ?_⟩
  refine List.forall_mem_cons.mpr ⟨trivial, ?_⟩
  exact fun _ h => absurd h List.not_mem_nil
theorem dt_108 : ∀ q ∈ mt_108, dm_E q.2 := by
  refine List.forall_mem_cons.mpr ⟨dm_aload _ _, ?_⟩
  refine List.forall_mem_cons.mpr ⟨dm_getf _ _ _, ?_⟩
  refine List.forall_mem_cons.mpr ⟨dm_getf _ _ _, ?_⟩
  refine List.forall_mem_cons.mpr ⟨trivial, ?_⟩
  exact fun _ h => absurd h List.not_mem_nil
theorem dt_109 : ∀ q ∈ mt_109, dm_E q.2 := by
  refine List.forall_mem_cons.mpr ⟨dm_aload _ _, ?_⟩
  refine List.forall_mem_cons.mpr ⟨dm_getf _ _ _, ?_⟩
  refine List.forall_mem_cons.mpr ⟨dm_getf _ _ _, ?_⟩
  refine List.forall_mem_cons.mpr ⟨trivial, ?_⟩
  exact fun _ h => absurd h List.not_mem_nil
theorem dt_110 : ∀ q ∈ mt_110, dm_E q.2 := by
  refine List.forall_mem_cons.mpr ⟨dm_aload _ _, ?_⟩
  refine List.forall_mem_cons.mpr ⟨dm_getf _ _ _, ?_⟩
  refine List.forall_mem_cons.mpr ⟨dm_iload _ _, ?_⟩
  refine List.forall_mem_cons.mpr ⟨trivial, ?_⟩
  refine List.forall_mem_cons.mpr ⟨dm_istore _ _, ?_⟩
  refine List.forall_mem_cons.mpr ⟨dm_aload _ _, ?_⟩
  refine List.forall_mem_cons.mpr ⟨dm_getf _ _ _, ?_⟩
  refine List.forall_mem_cons.mpr ⟨dm_iload _ _, ?_⟩
  refine List.forall_mem_cons.mpr ⟨dm_iload _ _, ?_⟩
  refine List.forall_mem_cons.mpr ⟨trivial, ?_⟩
  refine List.forall_mem_cons.mpr ⟨dm_iload _ _, ?_⟩
  refine List.forall_mem_cons.mpr ⟨trivial, ?_⟩
  exact fun _ h => absurd h List.not_mem_nil
