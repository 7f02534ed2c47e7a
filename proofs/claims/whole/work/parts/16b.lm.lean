theorem lm_8 : ∀ q ∈ mt_8, lk_E q.2 := by
  refine List.forall_mem_cons.mpr ⟨lk_aload _ _, ?_⟩
  refine List.forall_mem_cons.mpr ⟨lk_const _ _, ?_⟩
  refine List.forall_mem_cons.mpr ⟨lk_putf _ _ _ _, ?_⟩
  refine List.forall_mem_cons.mpr ⟨lk_const _ _, ?_⟩
  refine List.forall_mem_cons.mpr ⟨lk_istore _ _, ?_⟩
  refine List.forall_mem_cons.mpr ⟨lk_iload _ _, ?_⟩
  refine List.forall_mem_cons.mpr ⟨lk_iload _ _, ?_⟩
  refine List.forall_mem_cons.mpr ⟨lk_icmp _ _ _, ?_⟩
  refine List.forall_mem_cons.mpr ⟨lk_aload _ _, ?_⟩
  refine List.forall_mem_cons.mpr ⟨lk_iload _ _, ?_⟩
  refine List.forall_mem_cons.mpr ⟨trivial, ?_⟩
  refine List.forall_mem_cons.mpr ⟨lk_iinc _ _ _, ?_⟩
  refine List.forall_mem_cons.mpr ⟨lk_goto _, ?_⟩
  refine List.forall_mem_cons.mpr ⟨trivial, ?_⟩
  exact fun _ h => absurd h List.not_mem_nil
theorem lk_8 : ∀ pc en, mx_M 8 pc = some en → lk_E en := fun pc en h => lm_8 _ (mx_find_mem mt_8 pc en h)
theorem lm_35 : ∀ q ∈ mt_35, lk_E q.2 := by
  refine List.forall_mem_cons.mpr ⟨lk_aload _ _, ?_⟩
  refine List.forall_mem_cons.mpr ⟨lk_getf _ _ _, ?_⟩
  refine List.forall_mem_cons.mpr ⟨lk_const _ _, ?_⟩
  refine List.forall_mem_cons.mpr ⟨trivial, ?_⟩
  refine List.forall_mem_cons.mpr ⟨lk_aload _ _, ?_⟩
  refine List.forall_mem_cons.mpr ⟨lk_getf _ _ _, ?_⟩
  refine List.forall_mem_cons.mpr ⟨lk_const _ _, ?_⟩
  refine List.forall_mem_cons.mpr ⟨trivial, ?_⟩
  refine List.forall_mem_cons.mpr ⟨lk_aload _ _, ?_⟩
  refine List.forall_mem_cons.mpr ⟨lk_getf _ _ _, ?_⟩
  refine List.forall_mem_cons.mpr ⟨lk_const _ _, ?_⟩
  refine List.forall_mem_cons.mpr ⟨lk_const _ _, ?_⟩
  refine List.forall_mem_cons.mpr ⟨trivial, ?_⟩
  refine List.forall_mem_cons.mpr ⟨lk_const _ _, ?_⟩
  refine List.forall_mem_cons.mpr ⟨lk_istore _ _, ?_⟩
  refine List.forall_mem_cons.mpr ⟨lk_iload _ _, ?_⟩
  refine List.forall_mem_cons.mpr ⟨lk_aload _ _, ?_⟩
  refine List.forall_mem_cons.mpr ⟨trivial, ?_⟩
  refine List.forall_mem_cons.mpr ⟨lk_icmp _ _ _, ?_⟩
  refine List.forall_mem_cons.mpr ⟨lk_aload _ _, ?_⟩
  refine List.forall_mem_cons.mpr ⟨lk_iload _ _, ?_⟩
  refine List.forall_mem_cons.mpr ⟨trivial, ?_⟩
  refine List.forall_mem_cons.mpr ⟨lk_istore _ _, ?_⟩
  refine List.forall_mem_cons.mpr ⟨lk_iload _ _, ?_⟩
  refine List.forall_mem_cons.mpr ⟨lk_const _ _, ?_⟩
  refine List.forall_mem_cons.mpr ⟨lk_bin _ _, ?_⟩
  refine List.forall_mem_cons.mpr ⟨lk_istore _ _, ?_⟩
  refine List.forall_mem_cons.mpr ⟨lk_iload _ _, ?_⟩
  refine List.forall_mem_cons.mpr ⟨lk_const _ _, ?_⟩
  refine List.forall_mem_cons.mpr ⟨lk_bin _ _, ?_⟩
  refine List.forall_mem_cons.mpr ⟨lk_if _ _ _, ?_⟩
  refine List.forall_mem_cons.mpr ⟨lk_iinc _ _ _, ?_⟩
  refine List.forall_mem_cons.mpr ⟨lk_aload _ _, ?_⟩
  refine List.forall_mem_cons.mpr ⟨lk_iload _ _, ?_⟩
  refine List.forall_mem_cons.mpr ⟨trivial, ?_⟩
  refine List.forall_mem_cons.mpr ⟨lk_istore _ _, ?_⟩
  refine List.forall_mem_cons.mpr ⟨lk_aload _ _, ?_⟩
  refine List.forall_mem_cons.mpr ⟨lk_iload _ _, ?_⟩
  refine List.forall_mem_cons.mpr ⟨lk_const _ _, ?_⟩
  refine List.forall_mem_cons.mpr ⟨lk_bin _ _, ?_⟩
  refine List.forall_mem_cons.mpr ⟨lk_iload _ _, ?_⟩
  refine List.forall_mem_cons.mpr ⟨trivial, ?_⟩
  refine List.forall_mem_cons.mpr ⟨lk_iinc _ _ _, ?_⟩
  refine List.forall_mem_cons.mpr ⟨lk_goto _, ?_⟩
  refine List.forall_mem_cons.mpr ⟨lk_const _ _, ?_⟩
  refine List.forall_mem_cons.mpr ⟨lk_istore _ _, ?_⟩
  refine List.forall_mem_cons.mpr ⟨lk_iload _ _, ?_⟩
  refine List.forall_mem_cons.mpr ⟨lk_aload _ _, ?_⟩
  refine List.forall_mem_cons.mpr ⟨lk_getf _ _ _, ?_⟩
  refine List.forall_mem_cons.mpr ⟨trivial, ?_⟩
  refine List.forall_mem_cons.mpr ⟨lk_icmp _ _ _, ?_⟩
  refine List.forall_mem_cons.mpr ⟨lk_aload _ _, ?_⟩
  refine List.forall_mem_cons.mpr ⟨lk_getf _ _ _, ?_⟩
  refine List.forall_mem_cons.mpr ⟨lk_iload _ _, ?_⟩
  refine List.forall_mem_cons.mpr ⟨trivial, ?_⟩
  refine List.forall_mem_cons.mpr ⟨lk_const _ _, ?_⟩
  refine List.forall_mem_cons.mpr ⟨lk_icmp _ _ _, ?_⟩
  refine List.forall_mem_cons.mpr ⟨lk_aload _ _, ?_⟩
  refine List.forall_mem_cons.mpr ⟨lk_getf _ _ _, ?_⟩
  refine List.forall_mem_cons.mpr ⟨lk_iload _ _, ?_⟩
  refine List.forall_mem_cons.mpr ⟨lk_aload _ _, ?_⟩
  refine List.forall_mem_cons.mpr ⟨lk_getf _ _ _, ?_⟩
  refine List.forall_mem_cons.mpr ⟨lk_aload _ _, ?_⟩
  refine List.forall_mem_cons.mpr ⟨lk_getf _ _ _, ?_⟩
  refine List.forall_mem_cons.mpr ⟨lk_iload _ _, ?_⟩
  refine List.forall_mem_cons.mpr ⟨trivial, ?_⟩
  refine List.forall_mem_cons.mpr ⟨trivial, ?_⟩
  refine List.forall_mem_cons.mpr ⟨trivial, ?_⟩
  refine List.forall_mem_cons.mpr ⟨lk_iinc _ _ _, ?_⟩
  refine List.forall_mem_cons.mpr ⟨lk_goto _, ?_⟩
  refine List.forall_mem_cons.mpr ⟨trivial, ?_⟩
  exact fun _ h => absurd h List.not_mem_nil
theorem lk_35 : ∀ pc en, mx_M 35 pc = some en → lk_E en := fun pc en h => lm_35 _ (mx_find_mem mt_35 pc en h)
theorem lm_41 : ∀ q ∈ mt_41, lk_E q.2 := by
  refine List.forall_mem_cons.mpr ⟨lk_aload _ _, ?_⟩
  refine List.forall_mem_cons.mpr ⟨lk_const _ _, ?_⟩
  refine List.forall_mem_cons.mpr ⟨lk_putf _ _ _ _, ?_⟩
  refine List.forall_mem_cons.mpr ⟨lk_aload _ _, ?_⟩
  refine List.forall_mem_cons.mpr ⟨lk_const _ _, ?_⟩
  refine List.forall_mem_cons.mpr ⟨lk_putf _ _ _ _, ?_⟩
  refine List.forall_mem_cons.mpr ⟨lk_aload _ _, ?_⟩
  refine List.forall_mem_cons.mpr ⟨lk_iload _ _, ?_⟩
  refine List.forall_mem_cons.mpr ⟨lk_putf _ _ _ _, ?_⟩
  refine List.forall_mem_cons.mpr ⟨lk_aload _ _, ?_⟩
  refine List.forall_mem_cons.mpr ⟨lk_const _ _, ?_⟩
  refine List.forall_mem_cons.mpr ⟨lk_putf _ _ _ _, ?_⟩
  refine List.forall_mem_cons.mpr ⟨lk_iload _ _, ?_⟩
  refine List.forall_mem_cons.mpr ⟨lk_const _ _, ?_⟩
  refine List.forall_mem_cons.mpr ⟨lk_bin _ _, ?_⟩
  refine List.forall_mem_cons.mpr ⟨lk_aload _ _, ?_⟩
  refine List.forall_mem_cons.mpr ⟨trivial, ?_⟩
  refine List.forall_mem_cons.mpr ⟨lk_const _ _, ?_⟩
  refine List.forall_mem_cons.mpr ⟨lk_bin _ _, ?_⟩
  refine List.forall_mem_cons.mpr ⟨lk_bin _ _, ?_⟩
  refine List.forall_mem_cons.mpr ⟨lk_istore _ _, ?_⟩
  refine List.forall_mem_cons.mpr ⟨lk_const _ _, ?_⟩
  refine List.forall_mem_cons.mpr ⟨lk_istore _ _, ?_⟩
  refine List.forall_mem_cons.mpr ⟨lk_iload _ _, ?_⟩
  refine List.forall_mem_cons.mpr ⟨lk_iload _ _, ?_⟩
  refine List.forall_mem_cons.mpr ⟨lk_icmp _ _ _, ?_⟩
  refine List.forall_mem_cons.mpr ⟨lk_aload _ _, ?_⟩
  refine List.forall_mem_cons.mpr ⟨lk_getf _ _ _, ?_⟩
  refine List.forall_mem_cons.mpr ⟨lk_const _ _, ?_⟩
  refine List.forall_mem_cons.mpr ⟨lk_icmp _ _ _, ?_⟩
  refine List.forall_mem_cons.mpr ⟨lk_aload _ _, ?_⟩
  refine List.forall_mem_cons.mpr ⟨lk_aload _ _, ?_⟩
  refine List.forall_mem_cons.mpr ⟨lk_getf _ _ _, ?_⟩
  refine List.forall_mem_cons.mpr ⟨trivial, ?_⟩
  refine List.forall_mem_cons.mpr ⟨lk_istore _ _, ?_⟩
  refine List.forall_mem_cons.mpr ⟨lk_aload _ _, ?_⟩
  refine List.forall_mem_cons.mpr ⟨lk_aload _ _, ?_⟩
  refine List.forall_mem_cons.mpr ⟨lk_getf _ _ _, ?_⟩
  refine List.forall_mem_cons.mpr ⟨trivial, ?_⟩
  refine List.forall_mem_cons.mpr ⟨lk_istore _ _, ?_⟩
  refine List.forall_mem_cons.mpr ⟨lk_aload _ _, ?_⟩
  refine List.forall_mem_cons.mpr ⟨lk_dup _, ?_⟩
  refine List.forall_mem_cons.mpr ⟨lk_getf _ _ _, ?_⟩
  refine List.forall_mem_cons.mpr ⟨lk_const _ _, ?_⟩
  refine List.forall_mem_cons.mpr ⟨lk_bin _ _, ?_⟩
  refine List.forall_mem_cons.mpr ⟨lk_putf _ _ _ _, ?_⟩
  refine List.forall_mem_cons.mpr ⟨lk_iload _ _, ?_⟩
  refine List.forall_mem_cons.mpr ⟨lk_const _ _, ?_⟩
  refine List.forall_mem_cons.mpr ⟨lk_icmp _ _ _, ?_⟩
  refine List.forall_mem_cons.mpr ⟨lk_aload _ _, ?_⟩
  refine List.forall_mem_cons.mpr ⟨lk_iload _ _, ?_⟩
  refine List.forall_mem_cons.mpr ⟨lk_iload _ _, ?_⟩
  refine List.forall_mem_cons.mpr ⟨trivial, ?_⟩
  refine List.forall_mem_cons.mpr ⟨lk_goto _, ?_⟩
  refine List.forall_mem_cons.mpr ⟨lk_iload _ _, ?_⟩
  refine List.forall_mem_cons.mpr ⟨lk_const _ _, ?_⟩
  refine List.forall_mem_cons.mpr ⟨lk_icmp _ _ _, ?_⟩
  refine List.forall_mem_cons.mpr ⟨lk_aload _ _, ?_⟩
  refine List.forall_mem_cons.mpr ⟨lk_iload _ _, ?_⟩
  refine List.forall_mem_cons.mpr ⟨lk_iload _ _, ?_⟩
  refine List.forall_mem_cons.mpr ⟨trivial, ?_⟩
  refine List.forall_mem_cons.mpr ⟨lk_goto _, ?_⟩
  refine List.forall_mem_cons.mpr ⟨lk_aload _ _, ?_⟩
  refine List.forall_mem_cons.mpr ⟨lk_iload _ _, ?_⟩
  refine List.forall_mem_cons.mpr ⟨trivial, ?_⟩
  refine List.forall_mem_cons.mpr ⟨lk_if _ _ _, ?_⟩
  refine List.forall_mem_cons.mpr ⟨lk_aload _ _, ?_⟩
  refine List.forall_mem_cons.mpr ⟨lk_iload _ _, ?_⟩
  refine List.forall_mem_cons.mpr ⟨lk_putf _ _ _ _, ?_⟩
  refine List.forall_mem_cons.mpr ⟨lk_iinc _ _ _, ?_⟩
  refine List.forall_mem_cons.mpr ⟨lk_goto _, ?_⟩
  refine List.forall_mem_cons.mpr ⟨lk_aload _ _, ?_⟩
  refine List.forall_mem_cons.mpr ⟨lk_getf _ _ _, ?_⟩
  refine List.forall_mem_cons.mpr ⟨trivial, ?_⟩
  exact fun _ h => absurd h List.not_mem_nil
theorem lk_41 : ∀ pc en, mx_M 41 pc = some en → lk_E en := fun pc en h => lm_41 _ (mx_find_mem mt_41 pc en h)
theorem lm_59 : ∀ q ∈ mt_59, lk_E q.2 := by
  refine List.forall_mem_cons.mpr ⟨lk_const _ _, ?_⟩
  refine List.forall_mem_cons.mpr ⟨lk_istore _ _, ?_⟩
  refine List.forall_mem_cons.mpr ⟨lk_iload _ _, ?_⟩
  refine List.forall_mem_cons.mpr ⟨lk_aload _ _, ?_⟩
  refine List.forall_mem_cons.mpr ⟨lk_getf _ _ _, ?_⟩
  refine List.forall_mem_cons.mpr ⟨trivial, ?_⟩
  refine List.forall_mem_cons.mpr ⟨lk_icmp _ _ _, ?_⟩
  refine List.forall_mem_cons.mpr ⟨lk_aload _ _, ?_⟩
  refine List.forall_mem_cons.mpr ⟨lk_getf _ _ _, ?_⟩
  refine List.forall_mem_cons.mpr ⟨lk_iload _ _, ?_⟩
  refine List.forall_mem_cons.mpr ⟨trivial, ?_⟩
  refine List.forall_mem_cons.mpr ⟨lk_istore _ _, ?_⟩
  refine List.forall_mem_cons.mpr ⟨lk_iload _ _, ?_⟩
  refine List.forall_mem_cons.mpr ⟨lk_if _ _ _, ?_⟩
  refine List.forall_mem_cons.mpr ⟨lk_iload _ _, ?_⟩
  refine List.forall_mem_cons.mpr ⟨lk_gets _ _, ?_⟩
  refine List.forall_mem_cons.mpr ⟨lk_alen _, ?_⟩
  refine List.forall_mem_cons.mpr ⟨lk_icmp _ _ _, ?_⟩
  refine List.forall_mem_cons.mpr ⟨lk_const _ _, ?_⟩
  refine List.forall_mem_cons.mpr ⟨trivial, ?_⟩
  refine List.forall_mem_cons.mpr ⟨lk_aload _ _, ?_⟩
  refine List.forall_mem_cons.mpr ⟨lk_getf _ _ _, ?_⟩
  refine List.forall_mem_cons.mpr ⟨lk_iload _ _, ?_⟩
  refine List.forall_mem_cons.mpr ⟨trivial, ?_⟩
  refine List.forall_mem_cons.mpr ⟨lk_istore _ _, ?_⟩
  refine List.forall_mem_cons.mpr ⟨lk_gets _ _, ?_⟩
  refine List.forall_mem_cons.mpr ⟨lk_iload _ _, ?_⟩
  refine List.forall_mem_cons.mpr ⟨lk_ald _ _, ?_⟩
  refine List.forall_mem_cons.mpr ⟨lk_istore _ _, ?_⟩
  refine List.forall_mem_cons.mpr ⟨lk_iload _ _, ?_⟩
  refine List.forall_mem_cons.mpr ⟨lk_if _ _ _, ?_⟩
  refine List.forall_mem_cons.mpr ⟨lk_iload _ _, ?_⟩
  refine List.forall_mem_cons.mpr ⟨lk_if _ _ _, ?_⟩
  refine List.forall_mem_cons.mpr ⟨lk_iload _ _, ?_⟩
  refine List.forall_mem_cons.mpr ⟨lk_iload _ _, ?_⟩
  refine List.forall_mem_cons.mpr ⟨lk_icmp _ _ _, ?_⟩
  refine List.forall_mem_cons.mpr ⟨lk_const _ _, ?_⟩
  refine List.forall_mem_cons.mpr ⟨trivial, ?_⟩
  refine List.forall_mem_cons.mpr ⟨lk_iinc _ _ _, ?_⟩
  refine List.forall_mem_cons.mpr ⟨lk_goto _, ?_⟩
  refine List.forall_mem_cons.mpr ⟨lk_const _ _, ?_⟩
  refine List.forall_mem_cons.mpr ⟨trivial, ?_⟩
  exact fun _ h => absurd h List.not_mem_nil
theorem lk_59 : ∀ pc en, mx_M 59 pc = some en → lk_E en := fun pc en h => lm_59 _ (mx_find_mem mt_59 pc en h)
theorem lm_60 : ∀ q ∈ mt_60, lk_E q.2 := by
  refine List.forall_mem_cons.mpr ⟨lk_aload _ _, ?_⟩
  refine List.forall_mem_cons.mpr ⟨lk_getf _ _ _, ?_⟩
  refine List.forall_mem_cons.mpr ⟨lk_const _ _, ?_⟩
  refine List.forall_mem_cons.mpr ⟨lk_const _ _, ?_⟩
  refine List.forall_mem_cons.mpr ⟨trivial, ?_⟩
  refine List.forall_mem_cons.mpr ⟨lk_const _ _, ?_⟩
  refine List.forall_mem_cons.mpr ⟨lk_istore _ _, ?_⟩
  refine List.forall_mem_cons.mpr ⟨lk_iload _ _, ?_⟩
  refine List.forall_mem_cons.mpr ⟨lk_aload _ _, ?_⟩
  refine List.forall_mem_cons.mpr ⟨lk_getf _ _ _, ?_⟩
  refine List.forall_mem_cons.mpr ⟨trivial, ?_⟩
  refine List.forall_mem_cons.mpr ⟨lk_icmp _ _ _, ?_⟩
  refine List.forall_mem_cons.mpr ⟨lk_aload _ _, ?_⟩
  refine List.forall_mem_cons.mpr ⟨lk_getf _ _ _, ?_⟩
  refine List.forall_mem_cons.mpr ⟨lk_iload _ _, ?_⟩
  refine List.forall_mem_cons.mpr ⟨trivial, ?_⟩
  refine List.forall_mem_cons.mpr ⟨lk_const _ _, ?_⟩
  refine List.forall_mem_cons.mpr ⟨lk_icmp _ _ _, ?_⟩
  refine List.forall_mem_cons.mpr ⟨lk_aload _ _, ?_⟩
  refine List.forall_mem_cons.mpr ⟨lk_getf _ _ _, ?_⟩
  refine List.forall_mem_cons.mpr ⟨lk_iload _ _, ?_⟩
  refine List.forall_mem_cons.mpr ⟨trivial, ?_⟩
  refine List.forall_mem_cons.mpr ⟨lk_istore _ _, ?_⟩
  refine List.forall_mem_cons.mpr ⟨lk_aload _ _, ?_⟩
  refine List.forall_mem_cons.mpr ⟨lk_getf _ _ _, ?_⟩
  refine List.forall_mem_cons.mpr ⟨lk_iload _ _, ?_⟩
  refine List.forall_mem_cons.mpr ⟨trivial, ?_⟩
  refine List.forall_mem_cons.mpr ⟨lk_const _ _, ?_⟩
  refine List.forall_mem_cons.mpr ⟨lk_icmp _ _ _, ?_⟩
  refine List.forall_mem_cons.mpr ⟨lk_const _ _, ?_⟩
  refine List.forall_mem_cons.mpr ⟨trivial, ?_⟩
  refine List.forall_mem_cons.mpr ⟨lk_aload _ _, ?_⟩
  refine List.forall_mem_cons.mpr ⟨lk_getf _ _ _, ?_⟩
  refine List.forall_mem_cons.mpr ⟨lk_iload _ _, ?_⟩
  refine List.forall_mem_cons.mpr ⟨lk_iload _ _, ?_⟩
  refine List.forall_mem_cons.mpr ⟨trivial, ?_⟩
  refine List.forall_mem_cons.mpr ⟨lk_iinc _ _ _, ?_⟩
  refine List.forall_mem_cons.mpr ⟨lk_goto _, ?_⟩
  refine List.forall_mem_cons.mpr ⟨lk_const _ _, ?_⟩
  refine List.forall_mem_cons.mpr ⟨trivial, ?_⟩
  exact fun _ h => absurd h List.not_mem_nil
theorem lk_60 : ∀ pc en, mx_M 60 pc = some en → lk_E en := fun pc en h => lm_60 _ (mx_find_mem mt_60 pc en h)
theorem lm_61 : ∀ q ∈ mt_61, lk_E q.2 := by
  refine List.forall_mem_cons.mpr ⟨lk_const _ _, ?_⟩
  refine List.forall_mem_cons.mpr ⟨lk_istore _ _, ?_⟩
  refine List.forall_mem_cons.mpr ⟨lk_iload _ _, ?_⟩
  refine List.forall_mem_cons.mpr ⟨lk_aload _ _, ?_⟩
  refine List.forall_mem_cons.mpr ⟨lk_getf _ _ _, ?_⟩
  refine List.forall_mem_cons.mpr ⟨trivial, ?_⟩
  refine List.forall_mem_cons.mpr ⟨lk_icmp _ _ _, ?_⟩
  refine List.forall_mem_cons.mpr ⟨lk_aload _ _, ?_⟩
  refine List.forall_mem_cons.mpr ⟨lk_getf _ _ _, ?_⟩
  refine List.forall_mem_cons.mpr ⟨lk_iload _ _, ?_⟩
  refine List.forall_mem_cons.mpr ⟨trivial, ?_⟩
  refine List.forall_mem_cons.mpr ⟨lk_istore _ _, ?_⟩
  refine List.forall_mem_cons.mpr ⟨lk_iload _ _, ?_⟩
  refine List.forall_mem_cons.mpr ⟨trivial, ?_⟩
  refine List.forall_mem_cons.mpr ⟨lk_if _ _ _, ?_⟩
  refine List.forall_mem_cons.mpr ⟨lk_aload _ _, ?_⟩
  refine List.forall_mem_cons.mpr ⟨lk_getf _ _ _, ?_⟩
  refine List.forall_mem_cons.mpr ⟨lk_aload _ _, ?_⟩
  refine List.forall_mem_cons.mpr ⟨lk_getf _ _ _, ?_⟩
  refine List.forall_mem_cons.mpr ⟨lk_iload _ _, ?_⟩
  refine List.forall_mem_cons.mpr ⟨trivial, ?_⟩
  refine List.forall_mem_cons.mpr ⟨trivial, ?_⟩
  refine List.forall_mem_cons.mpr ⟨lk_const _ _, ?_⟩
  refine List.forall_mem_cons.mpr ⟨lk_icmp _ _ _, ?_⟩
  refine List.forall_mem_cons.mpr ⟨lk_const _ _, ?_⟩
  refine List.forall_mem_cons.mpr ⟨trivial, ?_⟩
  refine List.forall_mem_cons.mpr ⟨lk_iload _ _, ?_⟩
  refine List.forall_mem_cons.mpr ⟨lk_const _ _, ?_⟩
  refine List.forall_mem_cons.mpr ⟨lk_icmp _ _ _, ?_⟩
  refine List.forall_mem_cons.mpr ⟨lk_aload _ _, ?_⟩
  refine List.forall_mem_cons.mpr ⟨lk_getf _ _ _, ?_⟩
  refine List.forall_mem_cons.mpr ⟨lk_iload _ _, ?_⟩
  refine List.forall_mem_cons.mpr ⟨lk_const _ _, ?_⟩
  refine List.forall_mem_cons.mpr ⟨lk_bin _ _, ?_⟩
  refine List.forall_mem_cons.mpr ⟨trivial, ?_⟩
  refine List.forall_mem_cons.mpr ⟨lk_const _ _, ?_⟩
  refine List.forall_mem_cons.mpr ⟨lk_icmp _ _ _, ?_⟩
  refine List.forall_mem_cons.mpr ⟨lk_const _ _, ?_⟩
  refine List.forall_mem_cons.mpr ⟨trivial, ?_⟩
  refine List.forall_mem_cons.mpr ⟨lk_iinc _ _ _, ?_⟩
  refine List.forall_mem_cons.mpr ⟨lk_goto _, ?_⟩
  refine List.forall_mem_cons.mpr ⟨lk_const _ _, ?_⟩
  refine List.forall_mem_cons.mpr ⟨trivial, ?_⟩
  exact fun _ h => absurd h List.not_mem_nil
theorem lk_61 : ∀ pc en, mx_M 61 pc = some en → lk_E en := fun pc en h => lm_61 _ (mx_find_mem mt_61 pc en h)
theorem lm_64 : ∀ q ∈ mt_64, lk_E q.2 := by
  refine List.forall_mem_cons.mpr ⟨lk_aload _ _, ?_⟩
  refine List.forall_mem_cons.mpr ⟨lk_getf _ _ _, ?_⟩
  refine List.forall_mem_cons.mpr ⟨lk_aload _ _, ?_⟩
  refine List.forall_mem_cons.mpr ⟨lk_getf _ _ _, ?_⟩
  refine List.forall_mem_cons.mpr ⟨trivial, ?_⟩
  refine List.forall_mem_cons.mpr ⟨lk_const _ _, ?_⟩
  refine List.forall_mem_cons.mpr ⟨trivial, ?_⟩
  refine List.forall_mem_cons.mpr ⟨lk_aload _ _, ?_⟩
  refine List.forall_mem_cons.mpr ⟨lk_getf _ _ _, ?_⟩
  refine List.forall_mem_cons.mpr ⟨lk_const _ _, ?_⟩
  refine List.forall_mem_cons.mpr ⟨trivial, ?_⟩
  refine List.forall_mem_cons.mpr ⟨lk_aload _ _, ?_⟩
  refine List.forall_mem_cons.mpr ⟨lk_const _ _, ?_⟩
  refine List.forall_mem_cons.mpr ⟨lk_const _ _, ?_⟩
  refine List.forall_mem_cons.mpr ⟨trivial, ?_⟩
  refine List.forall_mem_cons.mpr ⟨lk_pop _, ?_⟩
  refine List.forall_mem_cons.mpr ⟨lk_const _ _, ?_⟩
  refine List.forall_mem_cons.mpr ⟨lk_istore _ _, ?_⟩
  refine List.forall_mem_cons.mpr ⟨lk_iload _ _, ?_⟩
  refine List.forall_mem_cons.mpr ⟨lk_aload _ _, ?_⟩
  refine List.forall_mem_cons.mpr ⟨lk_getf _ _ _, ?_⟩
  refine List.forall_mem_cons.mpr ⟨trivial, ?_⟩
  refine List.forall_mem_cons.mpr ⟨lk_icmp _ _ _, ?_⟩
  refine List.forall_mem_cons.mpr ⟨lk_aload _ _, ?_⟩
  refine List.forall_mem_cons.mpr ⟨lk_getf _ _ _, ?_⟩
  refine List.forall_mem_cons.mpr ⟨trivial, ?_⟩
  refine List.forall_mem_cons.mpr ⟨lk_if _ _ _, ?_⟩
  refine List.forall_mem_cons.mpr ⟨lk_aload _ _, ?_⟩
  refine List.forall_mem_cons.mpr ⟨lk_aload _ _, ?_⟩
  refine List.forall_mem_cons.mpr ⟨lk_getf _ _ _, ?_⟩
  refine List.forall_mem_cons.mpr ⟨trivial, ?_⟩
  refine List.forall_mem_cons.mpr ⟨trivial, ?_⟩
  refine List.forall_mem_cons.mpr ⟨lk_if _ _ _, ?_⟩
  refine List.forall_mem_cons.mpr ⟨lk_const _ _, ?_⟩
  refine List.forall_mem_cons.mpr ⟨trivial, ?_⟩
  refine List.forall_mem_cons.mpr ⟨lk_iinc _ _ _, ?_⟩
  refine List.forall_mem_cons.mpr ⟨lk_goto _, ?_⟩
  refine List.forall_mem_cons.mpr ⟨lk_const _ _, ?_⟩
  refine List.forall_mem_cons.mpr ⟨trivial, ?_⟩
  exact fun _ h => absurd h List.not_mem_nil
theorem lk_64 : ∀ pc en, mx_M 64 pc = some en → lk_E en := fun pc en h => lm_64 _ (mx_find_mem mt_64 pc en h)
theorem lm_67 : ∀ q ∈ mt_67, lk_E q.2 := by
  refine List.forall_mem_cons.mpr ⟨lk_aload _ _, ?_⟩
  refine List.forall_mem_cons.mpr ⟨lk_getf _ _ _, ?_⟩
  refine List.forall_mem_cons.mpr ⟨lk_aload _ _, ?_⟩
  refine List.forall_mem_cons.mpr ⟨lk_getf _ _ _, ?_⟩
  refine List.forall_mem_cons.mpr ⟨trivial, ?_⟩
  refine List.forall_mem_cons.mpr ⟨lk_const _ _, ?_⟩
  refine List.forall_mem_cons.mpr ⟨trivial, ?_⟩
  refine List.forall_mem_cons.mpr ⟨lk_const _ _, ?_⟩
  refine List.forall_mem_cons.mpr ⟨lk_istore _ _, ?_⟩
  refine List.forall_mem_cons.mpr ⟨lk_const _ _, ?_⟩
  refine List.forall_mem_cons.mpr ⟨lk_istore _ _, ?_⟩
  refine List.forall_mem_cons.mpr ⟨lk_iload _ _, ?_⟩
  refine List.forall_mem_cons.mpr ⟨lk_aload _ _, ?_⟩
  refine List.forall_mem_cons.mpr ⟨lk_getf _ _ _, ?_⟩
  refine List.forall_mem_cons.mpr ⟨trivial, ?_⟩
  refine List.forall_mem_cons.mpr ⟨lk_icmp _ _ _, ?_⟩
  refine List.forall_mem_cons.mpr ⟨lk_aload _ _, ?_⟩
  refine List.forall_mem_cons.mpr ⟨lk_iload _ _, ?_⟩
  refine List.forall_mem_cons.mpr ⟨trivial, ?_⟩
  refine List.forall_mem_cons.mpr ⟨lk_if _ _ _, ?_⟩
  refine List.forall_mem_cons.mpr ⟨lk_iinc _ _ _, ?_⟩
  refine List.forall_mem_cons.mpr ⟨lk_aload _ _, ?_⟩
  refine List.forall_mem_cons.mpr ⟨lk_aload _ _, ?_⟩
  refine List.forall_mem_cons.mpr ⟨lk_iload _ _, ?_⟩
  refine List.forall_mem_cons.mpr ⟨trivial, ?_⟩
  refine List.forall_mem_cons.mpr ⟨trivial, ?_⟩
  refine List.forall_mem_cons.mpr ⟨lk_aload _ _, ?_⟩
  refine List.forall_mem_cons.mpr ⟨lk_aload _ _, ?_⟩
  refine List.forall_mem_cons.mpr ⟨lk_iload _ _, ?_⟩
  refine List.forall_mem_cons.mpr ⟨trivial, ?_⟩
  refine List.forall_mem_cons.mpr ⟨trivial, ?_⟩
  refine List.forall_mem_cons.mpr ⟨lk_iinc _ _ _, ?_⟩
  refine List.forall_mem_cons.mpr ⟨lk_goto _, ?_⟩
  refine List.forall_mem_cons.mpr ⟨lk_aload _ _, ?_⟩
  refine List.forall_mem_cons.mpr ⟨lk_getf _ _ _, ?_⟩
  refine List.forall_mem_cons.mpr ⟨lk_const _ _, ?_⟩
  refine List.forall_mem_cons.mpr ⟨trivial, ?_⟩
  refine List.forall_mem_cons.mpr ⟨lk_const _ _, ?_⟩
  refine List.forall_mem_cons.mpr ⟨lk_istore _ _, ?_⟩
  refine List.forall_mem_cons.mpr ⟨lk_iload _ _, ?_⟩
  refine List.forall_mem_cons.mpr ⟨lk_aload _ _, ?_⟩
  refine List.forall_mem_cons.mpr ⟨lk_getf _ _ _, ?_⟩
  refine List.forall_mem_cons.mpr ⟨trivial, ?_⟩
  refine List.forall_mem_cons.mpr ⟨lk_icmp _ _ _, ?_⟩
  refine List.forall_mem_cons.mpr ⟨lk_aload _ _, ?_⟩
  refine List.forall_mem_cons.mpr ⟨lk_iload _ _, ?_⟩
  refine List.forall_mem_cons.mpr ⟨trivial, ?_⟩
  refine List.forall_mem_cons.mpr ⟨lk_if _ _ _, ?_⟩
  refine List.forall_mem_cons.mpr ⟨lk_aload _ _, ?_⟩
  refine List.forall_mem_cons.mpr ⟨lk_getf _ _ _, ?_⟩
  refine List.forall_mem_cons.mpr ⟨lk_iload _ _, ?_⟩
  refine List.forall_mem_cons.mpr ⟨trivial, ?_⟩
  refine List.forall_mem_cons.mpr ⟨lk_if _ _ _, ?_⟩
  refine List.forall_mem_cons.mpr ⟨lk_aload _ _, ?_⟩
  refine List.forall_mem_cons.mpr ⟨lk_getf _ _ _, ?_⟩
  refine List.forall_mem_cons.mpr ⟨lk_iload _ _, ?_⟩
  refine List.forall_mem_cons.mpr ⟨trivial, ?_⟩
  refine List.forall_mem_cons.mpr ⟨lk_iinc _ _ _, ?_⟩
  refine List.forall_mem_cons.mpr ⟨lk_goto _, ?_⟩
  refine List.forall_mem_cons.mpr ⟨lk_const _ _, ?_⟩
  refine List.forall_mem_cons.mpr ⟨lk_istore _ _, ?_⟩
  refine List.forall_mem_cons.mpr ⟨lk_iload _ _, ?_⟩
  refine List.forall_mem_cons.mpr ⟨lk_aload _ _, ?_⟩
  refine List.forall_mem_cons.mpr ⟨lk_getf _ _ _, ?_⟩
  refine List.forall_mem_cons.mpr ⟨trivial, ?_⟩
  refine List.forall_mem_cons.mpr ⟨lk_icmp _ _ _, ?_⟩
  refine List.forall_mem_cons.mpr ⟨lk_aload _ _, ?_⟩
  refine List.forall_mem_cons.mpr ⟨lk_getf _ _ _, ?_⟩
  refine List.forall_mem_cons.mpr ⟨trivial, ?_⟩
  refine List.forall_mem_cons.mpr ⟨lk_if _ _ _, ?_⟩
  refine List.forall_mem_cons.mpr ⟨lk_aload _ _, ?_⟩
  refine List.forall_mem_cons.mpr ⟨lk_getf _ _ _, ?_⟩
  refine List.forall_mem_cons.mpr ⟨trivial, ?_⟩
  refine List.forall_mem_cons.mpr ⟨lk_istore _ _, ?_⟩
  refine List.forall_mem_cons.mpr ⟨lk_iinc _ _ _, ?_⟩
  refine List.forall_mem_cons.mpr ⟨lk_aload _ _, ?_⟩
  refine List.forall_mem_cons.mpr ⟨lk_aload _ _, ?_⟩
  refine List.forall_mem_cons.mpr ⟨lk_iload _ _, ?_⟩
  refine List.forall_mem_cons.mpr ⟨trivial, ?_⟩
  refine List.forall_mem_cons.mpr ⟨trivial, ?_⟩
  refine List.forall_mem_cons.mpr ⟨lk_aload _ _, ?_⟩
  refine List.forall_mem_cons.mpr ⟨lk_aload _ _, ?_⟩
  refine List.forall_mem_cons.mpr ⟨lk_iload _ _, ?_⟩
  refine List.forall_mem_cons.mpr ⟨trivial, ?_⟩
  refine List.forall_mem_cons.mpr ⟨trivial, ?_⟩
  refine List.forall_mem_cons.mpr ⟨lk_iinc _ _ _, ?_⟩
  refine List.forall_mem_cons.mpr ⟨lk_goto _, ?_⟩
  refine List.forall_mem_cons.mpr ⟨lk_iload _ _, ?_⟩
  refine List.forall_mem_cons.mpr ⟨lk_if _ _ _, ?_⟩
  refine List.forall_mem_cons.mpr ⟨lk_const _ _, ?_⟩
  refine List.forall_mem_cons.mpr ⟨lk_goto _, ?_⟩
  refine List.forall_mem_cons.mpr ⟨lk_const _ _, ?_⟩
  refine List.forall_mem_cons.mpr ⟨trivial, ?_⟩
  exact fun _ h => absurd h List.not_mem_nil
theorem lk_67 : ∀ pc en, mx_M 67 pc = some en → lk_E en := fun pc en h => lm_67 _ (mx_find_mem mt_67 pc en h)
theorem lm_72 : ∀ q ∈ mt_72, lk_E q.2 := by
  refine List.forall_mem_cons.mpr ⟨lk_aload _ _, ?_⟩
  refine List.forall_mem_cons.mpr ⟨lk_aload _ _, ?_⟩
  refine List.forall_mem_cons.mpr ⟨lk_aload _ _, ?_⟩
  refine List.forall_mem_cons.mpr ⟨trivial, ?_⟩
  refine List.forall_mem_cons.mpr ⟨lk_const _ _, ?_⟩
  refine List.forall_mem_cons.mpr ⟨lk_istore _ _, ?_⟩
  refine List.forall_mem_cons.mpr ⟨lk_iload _ _, ?_⟩
  refine List.forall_mem_cons.mpr ⟨lk_const _ _, ?_⟩
  refine List.forall_mem_cons.mpr ⟨lk_icmp _ _ _, ?_⟩
  refine List.forall_mem_cons.mpr ⟨lk_aload _ _, ?_⟩
  refine List.forall_mem_cons.mpr ⟨lk_getf _ _ _, ?_⟩
  refine List.forall_mem_cons.mpr ⟨lk_astore _ _, ?_⟩
  refine List.forall_mem_cons.mpr ⟨lk_aload _ _, ?_⟩
  refine List.forall_mem_cons.mpr ⟨lk_aload _ _, ?_⟩
  refine List.forall_mem_cons.mpr ⟨lk_getf _ _ _, ?_⟩
  refine List.forall_mem_cons.mpr ⟨lk_putf _ _ _ _, ?_⟩
  refine List.forall_mem_cons.mpr ⟨lk_aload _ _, ?_⟩
  refine List.forall_mem_cons.mpr ⟨lk_aload _ _, ?_⟩
  refine List.forall_mem_cons.mpr ⟨lk_putf _ _ _ _, ?_⟩
  refine List.forall_mem_cons.mpr ⟨lk_aload _ _, ?_⟩
  refine List.forall_mem_cons.mpr ⟨trivial, ?_⟩
  refine List.forall_mem_cons.mpr ⟨lk_aload _ _, ?_⟩
  refine List.forall_mem_cons.mpr ⟨trivial, ?_⟩
  refine List.forall_mem_cons.mpr ⟨lk_aload _ _, ?_⟩
  refine List.forall_mem_cons.mpr ⟨trivial, ?_⟩
  refine List.forall_mem_cons.mpr ⟨lk_iinc _ _ _, ?_⟩
  refine List.forall_mem_cons.mpr ⟨lk_goto _, ?_⟩
  refine List.forall_mem_cons.mpr ⟨lk_aload _ _, ?_⟩
  refine List.forall_mem_cons.mpr ⟨lk_getf _ _ _, ?_⟩
  refine List.forall_mem_cons.mpr ⟨trivial, ?_⟩
  exact fun _ h => absurd h List.not_mem_nil
theorem lk_72 : ∀ pc en, mx_M 72 pc = some en → lk_E en := fun pc en h => lm_72 _ (mx_find_mem mt_72 pc en h)
theorem lm_73 : ∀ q ∈ mt_73, lk_E q.2 := by
  refine List.forall_mem_cons.mpr ⟨lk_aload _ _, ?_⟩
  refine List.forall_mem_cons.mpr ⟨lk_getf _ _ _, ?_⟩
  refine List.forall_mem_cons.mpr ⟨lk_const _ _, ?_⟩
  refine List.forall_mem_cons.mpr ⟨trivial, ?_⟩
  refine List.forall_mem_cons.mpr ⟨lk_const _ _, ?_⟩
  refine List.forall_mem_cons.mpr ⟨lk_istore _ _, ?_⟩
  refine List.forall_mem_cons.mpr ⟨lk_iload _ _, ?_⟩
  refine List.forall_mem_cons.mpr ⟨lk_aload _ _, ?_⟩
  refine List.forall_mem_cons.mpr ⟨trivial, ?_⟩
  refine List.forall_mem_cons.mpr ⟨lk_icmp _ _ _, ?_⟩
  refine List.forall_mem_cons.mpr ⟨lk_aload _ _, ?_⟩
  refine List.forall_mem_cons.mpr ⟨lk_iload _ _, ?_⟩
  refine List.forall_mem_cons.mpr ⟨lk_const _ _, ?_⟩
  refine List.forall_mem_cons.mpr ⟨lk_bin _ _, ?_⟩
  refine List.forall_mem_cons.mpr ⟨trivial, ?_⟩
  refine List.forall_mem_cons.mpr ⟨lk_const _ _, ?_⟩
  refine List.forall_mem_cons.mpr ⟨lk_icmp _ _ _, ?_⟩
  refine List.forall_mem_cons.mpr ⟨lk_aload _ _, ?_⟩
  refine List.forall_mem_cons.mpr ⟨lk_iload _ _, ?_⟩
  refine List.forall_mem_cons.mpr ⟨lk_const _ _, ?_⟩
  refine List.forall_mem_cons.mpr ⟨lk_bin _ _, ?_⟩
  refine List.forall_mem_cons.mpr ⟨trivial, ?_⟩
  refine List.forall_mem_cons.mpr ⟨lk_if _ _ _, ?_⟩
  refine List.forall_mem_cons.mpr ⟨lk_const _ _, ?_⟩
  refine List.forall_mem_cons.mpr ⟨lk_goto _, ?_⟩
  refine List.forall_mem_cons.mpr ⟨lk_const _ _, ?_⟩
  refine List.forall_mem_cons.mpr ⟨lk_istore _ _, ?_⟩
  refine List.forall_mem_cons.mpr ⟨lk_iload _ _, ?_⟩
  refine List.forall_mem_cons.mpr ⟨lk_if _ _ _, ?_⟩
  refine List.forall_mem_cons.mpr ⟨lk_aload _ _, ?_⟩
  refine List.forall_mem_cons.mpr ⟨lk_iload _ _, ?_⟩
  refine List.forall_mem_cons.mpr ⟨trivial, ?_⟩
  refine List.forall_mem_cons.mpr ⟨lk_if _ _ _, ?_⟩
  refine List.forall_mem_cons.mpr ⟨lk_aload _ _, ?_⟩
  refine List.forall_mem_cons.mpr ⟨lk_getf _ _ _, ?_⟩
  refine List.forall_mem_cons.mpr ⟨lk_aload _ _, ?_⟩
  refine List.forall_mem_cons.mpr ⟨lk_iload _ _, ?_⟩
  refine List.forall_mem_cons.mpr ⟨trivial, ?_⟩
  refine List.forall_mem_cons.mpr ⟨lk_aload _ _, ?_⟩
  refine List.forall_mem_cons.mpr ⟨lk_iload _ _, ?_⟩
  refine List.forall_mem_cons.mpr ⟨trivial, ?_⟩
  refine List.forall_mem_cons.mpr ⟨trivial, ?_⟩
  refine List.forall_mem_cons.mpr ⟨lk_iinc _ _ _, ?_⟩
  refine List.forall_mem_cons.mpr ⟨lk_goto _, ?_⟩
  refine List.forall_mem_cons.mpr ⟨trivial, ?_⟩
  exact fun _ h => absurd h List.not_mem_nil
theorem lk_73 : ∀ pc en, mx_M 73 pc = some en → lk_E en := fun pc en h => lm_73 _ (mx_find_mem mt_73 pc en h)
theorem lm_74 : ∀ q ∈ mt_74, lk_E q.2 := by
  refine List.forall_mem_cons.mpr ⟨lk_aload _ _, ?_⟩
  refine List.forall_mem_cons.mpr ⟨lk_getf _ _ _, ?_⟩
  refine List.forall_mem_cons.mpr ⟨lk_const _ _, ?_⟩
  refine List.forall_mem_cons.mpr ⟨lk_const _ _, ?_⟩
  refine List.forall_mem_cons.mpr ⟨trivial, ?_⟩
  refine List.forall_mem_cons.mpr ⟨lk_const _ _, ?_⟩
  refine List.forall_mem_cons.mpr ⟨lk_istore _ _, ?_⟩
  refine List.forall_mem_cons.mpr ⟨lk_iload _ _, ?_⟩
  refine List.forall_mem_cons.mpr ⟨lk_aload _ _, ?_⟩
  refine List.forall_mem_cons.mpr ⟨lk_getf _ _ _, ?_⟩
  refine List.forall_mem_cons.mpr ⟨trivial, ?_⟩
  refine List.forall_mem_cons.mpr ⟨lk_icmp _ _ _, ?_⟩
  refine List.forall_mem_cons.mpr ⟨lk_aload _ _, ?_⟩
  refine List.forall_mem_cons.mpr ⟨lk_getf _ _ _, ?_⟩
  refine List.forall_mem_cons.mpr ⟨lk_iload _ _, ?_⟩
  refine List.forall_mem_cons.mpr ⟨trivial, ?_⟩
  refine List.forall_mem_cons.mpr ⟨lk_const _ _, ?_⟩
  refine List.forall_mem_cons.mpr ⟨lk_icmp _ _ _, ?_⟩
  refine List.forall_mem_cons.mpr ⟨lk_aload _ _, ?_⟩
  refine List.forall_mem_cons.mpr ⟨lk_getf _ _ _, ?_⟩
  refine List.forall_mem_cons.mpr ⟨lk_aload _ _, ?_⟩
  refine List.forall_mem_cons.mpr ⟨lk_getf _ _ _, ?_⟩
  refine List.forall_mem_cons.mpr ⟨lk_iload _ _, ?_⟩
  refine List.forall_mem_cons.mpr ⟨trivial, ?_⟩
  refine List.forall_mem_cons.mpr ⟨lk_iload _ _, ?_⟩
  refine List.forall_mem_cons.mpr ⟨trivial, ?_⟩
  refine List.forall_mem_cons.mpr ⟨lk_iinc _ _ _, ?_⟩
  refine List.forall_mem_cons.mpr ⟨lk_goto _, ?_⟩
  refine List.forall_mem_cons.mpr ⟨trivial, ?_⟩
  exact fun _ h => absurd h List.not_mem_nil
theorem lk_74 : ∀ pc en, mx_M 74 pc = some en → lk_E en := fun pc en h => lm_74 _ (mx_find_mem mt_74 pc en h)
theorem lm_75 : ∀ q ∈ mt_75, lk_E q.2 := by
  refine List.forall_mem_cons.mpr ⟨lk_aload _ _, ?_⟩
  refine List.forall_mem_cons.mpr ⟨lk_getf _ _ _, ?_⟩
  refine List.forall_mem_cons.mpr ⟨lk_const _ _, ?_⟩
  refine List.forall_mem_cons.mpr ⟨lk_const _ _, ?_⟩
  refine List.forall_mem_cons.mpr ⟨trivial, ?_⟩
  refine List.forall_mem_cons.mpr ⟨lk_const _ _, ?_⟩
  refine List.forall_mem_cons.mpr ⟨lk_istore _ _, ?_⟩
  refine List.forall_mem_cons.mpr ⟨lk_iload _ _, ?_⟩
  refine List.forall_mem_cons.mpr ⟨lk_aload _ _, ?_⟩
  refine List.forall_mem_cons.mpr ⟨lk_getf _ _ _, ?_⟩
  refine List.forall_mem_cons.mpr ⟨trivial, ?_⟩
  refine List.forall_mem_cons.mpr ⟨lk_icmp _ _ _, ?_⟩
  refine List.forall_mem_cons.mpr ⟨lk_aload _ _, ?_⟩
  refine List.forall_mem_cons.mpr ⟨lk_getf _ _ _, ?_⟩
  refine List.forall_mem_cons.mpr ⟨lk_iload _ _, ?_⟩
  refine List.forall_mem_cons.mpr ⟨trivial, ?_⟩
  refine List.forall_mem_cons.mpr ⟨trivial, ?_⟩
  refine List.forall_mem_cons.mpr ⟨lk_if _ _ _, ?_⟩
  refine List.forall_mem_cons.mpr ⟨lk_aload _ _, ?_⟩
  refine List.forall_mem_cons.mpr ⟨lk_aload _ _, ?_⟩
  refine List.forall_mem_cons.mpr ⟨lk_getf _ _ _, ?_⟩
  refine List.forall_mem_cons.mpr ⟨lk_iload _ _, ?_⟩
  refine List.forall_mem_cons.mpr ⟨trivial, ?_⟩
  refine List.forall_mem_cons.mpr ⟨trivial, ?_⟩
  refine List.forall_mem_cons.mpr ⟨lk_istore _ _, ?_⟩
  refine List.forall_mem_cons.mpr ⟨lk_aload _ _, ?_⟩
  refine List.forall_mem_cons.mpr ⟨lk_getf _ _ _, ?_⟩
  refine List.forall_mem_cons.mpr ⟨lk_iload _ _, ?_⟩
  refine List.forall_mem_cons.mpr ⟨lk_aload _ _, ?_⟩
  refine List.forall_mem_cons.mpr ⟨lk_getf _ _ _, ?_⟩
  refine List.forall_mem_cons.mpr ⟨lk_iload _ _, ?_⟩
  refine List.forall_mem_cons.mpr ⟨trivial, ?_⟩
  refine List.forall_mem_cons.mpr ⟨lk_const _ _, ?_⟩
  refine List.forall_mem_cons.mpr ⟨lk_bin _ _, ?_⟩
  refine List.forall_mem_cons.mpr ⟨trivial, ?_⟩
  refine List.forall_mem_cons.mpr ⟨lk_iinc _ _ _, ?_⟩
  refine List.forall_mem_cons.mpr ⟨lk_goto _, ?_⟩
  refine List.forall_mem_cons.mpr ⟨trivial, ?_⟩
  exact fun _ h => absurd h List.not_mem_nil
theorem lk_75 : ∀ pc en, mx_M 75 pc = some en → lk_E en := fun pc en h => lm_75 _ (mx_find_mem mt_75 pc en h)
theorem lm_76 : ∀ q ∈ mt_76, lk_E q.2 := by
  refine List.forall_mem_cons.mpr ⟨lk_iload _ _, ?_⟩
  refine List.forall_mem_cons.mpr ⟨lk_istore _ _, ?_⟩
  refine List.forall_mem_cons.mpr ⟨lk_const _ _, ?_⟩
  refine List.forall_mem_cons.mpr ⟨lk_istore _ _, ?_⟩
  refine List.forall_mem_cons.mpr ⟨lk_iload _ _, ?_⟩
  refine List.forall_mem_cons.mpr ⟨lk_const _ _, ?_⟩
  refine List.forall_mem_cons.mpr ⟨lk_icmp _ _ _, ?_⟩
  refine List.forall_mem_cons.mpr ⟨lk_aload _ _, ?_⟩
  refine List.forall_mem_cons.mpr ⟨lk_getf _ _ _, ?_⟩
  refine List.forall_mem_cons.mpr ⟨lk_iload _ _, ?_⟩
  refine List.forall_mem_cons.mpr ⟨trivial, ?_⟩
  refine List.forall_mem_cons.mpr ⟨lk_const _ _, ?_⟩
  refine List.forall_mem_cons.mpr ⟨lk_bin _ _, ?_⟩
  refine List.forall_mem_cons.mpr ⟨lk_istore _ _, ?_⟩
  refine List.forall_mem_cons.mpr ⟨lk_aload _ _, ?_⟩
  refine List.forall_mem_cons.mpr ⟨lk_getf _ _ _, ?_⟩
  refine List.forall_mem_cons.mpr ⟨lk_iload _ _, ?_⟩
  refine List.forall_mem_cons.mpr ⟨trivial, ?_⟩
  refine List.forall_mem_cons.mpr ⟨lk_istore _ _, ?_⟩
  refine List.forall_mem_cons.mpr ⟨lk_iload _ _, ?_⟩
  refine List.forall_mem_cons.mpr ⟨lk_const _ _, ?_⟩
  refine List.forall_mem_cons.mpr ⟨lk_icmp _ _ _, ?_⟩
  refine List.forall_mem_cons.mpr ⟨lk_iload _ _, ?_⟩
  refine List.forall_mem_cons.mpr ⟨lk_const _ _, ?_⟩
  refine List.forall_mem_cons.mpr ⟨lk_icmp _ _ _, ?_⟩
  refine List.forall_mem_cons.mpr ⟨lk_iload _ _, ?_⟩
  refine List.forall_mem_cons.mpr ⟨trivial, ?_⟩
  refine List.forall_mem_cons.mpr ⟨lk_aload _ _, ?_⟩
  refine List.forall_mem_cons.mpr ⟨lk_getf _ _ _, ?_⟩
  refine List.forall_mem_cons.mpr ⟨lk_iload _ _, ?_⟩
  refine List.forall_mem_cons.mpr ⟨trivial, ?_⟩
  refine List.forall_mem_cons.mpr ⟨lk_istore _ _, ?_⟩
  refine List.forall_mem_cons.mpr ⟨lk_iinc _ _ _, ?_⟩
  refine List.forall_mem_cons.mpr ⟨lk_goto _, ?_⟩
  refine List.forall_mem_cons.mpr ⟨lk_iload _ _, ?_⟩
  refine List.forall_mem_cons.mpr ⟨trivial, ?_⟩
  exact fun _ h => absurd h List.not_mem_nil
theorem lk_76 : ∀ pc en, mx_M 76 pc = some en → lk_E en := fun pc en h => lm_76 _ (mx_find_mem mt_76 pc en h)
theorem lm_77 : ∀ q ∈ mt_77, lk_E q.2 := by
  refine List.forall_mem_cons.mpr ⟨lk_aload _ _, ?_⟩
  refine List.forall_mem_cons.mpr ⟨lk_getf _ _ _, ?_⟩
  refine List.forall_mem_cons.mpr ⟨lk_const _ _, ?_⟩
  refine List.forall_mem_cons.mpr ⟨trivial, ?_⟩
  refine List.forall_mem_cons.mpr ⟨lk_const _ _, ?_⟩
  refine List.forall_mem_cons.mpr ⟨lk_istore _ _, ?_⟩
  refine List.forall_mem_cons.mpr ⟨lk_const _ _, ?_⟩
  refine List.forall_mem_cons.mpr ⟨lk_istore _ _, ?_⟩
  refine List.forall_mem_cons.mpr ⟨lk_iload _ _, ?_⟩
  refine List.forall_mem_cons.mpr ⟨lk_aload _ _, ?_⟩
  refine List.forall_mem_cons.mpr ⟨lk_getf _ _ _, ?_⟩
  refine List.forall_mem_cons.mpr ⟨trivial, ?_⟩
  refine List.forall_mem_cons.mpr ⟨lk_icmp _ _ _, ?_⟩
  refine List.forall_mem_cons.mpr ⟨lk_aload _ _, ?_⟩
  refine List.forall_mem_cons.mpr ⟨lk_getf _ _ _, ?_⟩
  refine List.forall_mem_cons.mpr ⟨lk_iload _ _, ?_⟩
  refine List.forall_mem_cons.mpr ⟨trivial, ?_⟩
  refine List.forall_mem_cons.mpr ⟨lk_istore _ _, ?_⟩
  refine List.forall_mem_cons.mpr ⟨lk_aload _ _, ?_⟩
  refine List.forall_mem_cons.mpr ⟨lk_getf _ _ _, ?_⟩
  refine List.forall_mem_cons.mpr ⟨lk_iload _ _, ?_⟩
  refine List.forall_mem_cons.mpr ⟨trivial, ?_⟩
  refine List.forall_mem_cons.mpr ⟨lk_istore _ _, ?_⟩
  refine List.forall_mem_cons.mpr ⟨lk_iload _ _, ?_⟩
  refine List.forall_mem_cons.mpr ⟨lk_const _ _, ?_⟩
  refine List.forall_mem_cons.mpr ⟨lk_icmp _ _ _, ?_⟩
  refine List.forall_mem_cons.mpr ⟨lk_aload _ _, ?_⟩
  refine List.forall_mem_cons.mpr ⟨lk_getf _ _ _, ?_⟩
  refine List.forall_mem_cons.mpr ⟨lk_iload _ _, ?_⟩
  refine List.forall_mem_cons.mpr ⟨trivial, ?_⟩
  refine List.forall_mem_cons.mpr ⟨lk_if _ _ _, ?_⟩
  refine List.forall_mem_cons.mpr ⟨lk_goto _, ?_⟩
  refine List.forall_mem_cons.mpr ⟨lk_iload _ _, ?_⟩
  refine List.forall_mem_cons.mpr ⟨lk_if _ _ _, ?_⟩
  refine List.forall_mem_cons.mpr ⟨lk_iload _ _, ?_⟩
  refine List.forall_mem_cons.mpr ⟨lk_const _ _, ?_⟩
  refine List.forall_mem_cons.mpr ⟨lk_icmp _ _ _, ?_⟩
  refine List.forall_mem_cons.mpr ⟨lk_goto _, ?_⟩
  refine List.forall_mem_cons.mpr ⟨lk_iload _ _, ?_⟩
  refine List.forall_mem_cons.mpr ⟨trivial, ?_⟩
  refine List.forall_mem_cons.mpr ⟨lk_if _ _ _, ?_⟩
  refine List.forall_mem_cons.mpr ⟨lk_aload _ _, ?_⟩
  refine List.forall_mem_cons.mpr ⟨lk_iload _ _, ?_⟩
  refine List.forall_mem_cons.mpr ⟨trivial, ?_⟩
  refine List.forall_mem_cons.mpr ⟨lk_goto _, ?_⟩
  refine List.forall_mem_cons.mpr ⟨lk_iload _ _, ?_⟩
  refine List.forall_mem_cons.mpr ⟨lk_istore _ _, ?_⟩
  refine List.forall_mem_cons.mpr ⟨lk_aload _ _, ?_⟩
  refine List.forall_mem_cons.mpr ⟨lk_iload _ _, ?_⟩
  refine List.forall_mem_cons.mpr ⟨lk_iload _ _, ?_⟩
  refine List.forall_mem_cons.mpr ⟨trivial, ?_⟩
  refine List.forall_mem_cons.mpr ⟨lk_if _ _ _, ?_⟩
  refine List.forall_mem_cons.mpr ⟨lk_aload _ _, ?_⟩
  refine List.forall_mem_cons.mpr ⟨lk_getf _ _ _, ?_⟩
  refine List.forall_mem_cons.mpr ⟨lk_iload _ _, ?_⟩
  refine List.forall_mem_cons.mpr ⟨lk_iload _ _, ?_⟩
  refine List.forall_mem_cons.mpr ⟨trivial, ?_⟩
  refine List.forall_mem_cons.mpr ⟨lk_aload _ _, ?_⟩
  refine List.forall_mem_cons.mpr ⟨lk_getf _ _ _, ?_⟩
  refine List.forall_mem_cons.mpr ⟨lk_const _ _, ?_⟩
  refine List.forall_mem_cons.mpr ⟨trivial, ?_⟩
  refine List.forall_mem_cons.mpr ⟨trivial, ?_⟩
  refine List.forall_mem_cons.mpr ⟨lk_istore _ _, ?_⟩
  refine List.forall_mem_cons.mpr ⟨lk_iinc _ _ _, ?_⟩
  refine List.forall_mem_cons.mpr ⟨lk_goto _, ?_⟩
  refine List.forall_mem_cons.mpr ⟨trivial, ?_⟩
  exact fun _ h => absurd h List.not_mem_nil
theorem lk_77 : ∀ pc en, mx_M 77 pc = some en → lk_E en := fun pc en h => lm_77 _ (mx_find_mem mt_77 pc en h)
theorem lm_87 : ∀ q ∈ mt_87, lk_E q.2 := by
  refine List.forall_mem_cons.mpr ⟨lk_aload _ _, ?_⟩
  refine List.forall_mem_cons.mpr ⟨lk_getf _ _ _, ?_⟩
  refine List.forall_mem_cons.mpr ⟨lk_const _ _, ?_⟩
  refine List.forall_mem_cons.mpr ⟨trivial, ?_⟩
  refine List.forall_mem_cons.mpr ⟨lk_aload _ _, ?_⟩
  refine List.forall_mem_cons.mpr ⟨lk_const _ _, ?_⟩
  refine List.forall_mem_cons.mpr ⟨trivial, ?_⟩
  refine List.forall_mem_cons.mpr ⟨lk_const _ _, ?_⟩
  refine List.forall_mem_cons.mpr ⟨lk_istore _ _, ?_⟩
  refine List.forall_mem_cons.mpr ⟨lk_iload _ _, ?_⟩
  refine List.forall_mem_cons.mpr ⟨lk_aload _ _, ?_⟩
  refine List.forall_mem_cons.mpr ⟨trivial, ?_⟩
  refine List.forall_mem_cons.mpr ⟨lk_icmp _ _ _, ?_⟩
  refine List.forall_mem_cons.mpr ⟨lk_aload _ _, ?_⟩
  refine List.forall_mem_cons.mpr ⟨lk_iload _ _, ?_⟩
  refine List.forall_mem_cons.mpr ⟨trivial, ?_⟩
  refine List.forall_mem_cons.mpr ⟨lk_istore _ _, ?_⟩
  refine List.forall_mem_cons.mpr ⟨lk_aload _ _, ?_⟩
  refine List.forall_mem_cons.mpr ⟨lk_iload _ _, ?_⟩
  refine List.forall_mem_cons.mpr ⟨trivial, ?_⟩
  refine List.forall_mem_cons.mpr ⟨lk_istore _ _, ?_⟩
  refine List.forall_mem_cons.mpr ⟨lk_iload _ _, ?_⟩
  refine List.forall_mem_cons.mpr ⟨lk_table _ _ _ _, ?_⟩
  refine List.forall_mem_cons.mpr ⟨lk_aload _ _, ?_⟩
  refine List.forall_mem_cons.mpr ⟨lk_const _ _, ?_⟩
  refine List.forall_mem_cons.mpr ⟨lk_iload _ _, ?_⟩
  refine List.forall_mem_cons.mpr ⟨trivial, ?_⟩
  refine List.forall_mem_cons.mpr ⟨lk_goto _, ?_⟩
  refine List.forall_mem_cons.mpr ⟨lk_aload _ _, ?_⟩
  refine List.forall_mem_cons.mpr ⟨lk_const _ _, ?_⟩
  refine List.forall_mem_cons.mpr ⟨lk_iload _ _, ?_⟩
  refine List.forall_mem_cons.mpr ⟨trivial, ?_⟩
  refine List.forall_mem_cons.mpr ⟨lk_goto _, ?_⟩
  refine List.forall_mem_cons.mpr ⟨lk_aload _ _, ?_⟩
  refine List.forall_mem_cons.mpr ⟨lk_iload _ _, ?_⟩
  refine List.forall_mem_cons.mpr ⟨trivial, ?_⟩
  refine List.forall_mem_cons.mpr ⟨lk_goto _, ?_⟩
  refine List.forall_mem_cons.mpr ⟨lk_aload _ _, ?_⟩
  refine List.forall_mem_cons.mpr ⟨lk_const _ _, ?_⟩
  refine List.forall_mem_cons.mpr ⟨trivial, ?_⟩
  refine List.forall_mem_cons.mpr ⟨lk_goto _, ?_⟩
  refine List.forall_mem_cons.mpr ⟨lk_aload _ _, ?_⟩
  refine List.forall_mem_cons.mpr ⟨lk_const _ _, ?_⟩
  refine List.forall_mem_cons.mpr ⟨trivial, ?_⟩
  refine List.forall_mem_cons.mpr ⟨lk_pop _, ?_⟩
  refine List.forall_mem_cons.mpr ⟨lk_aload _ _, ?_⟩
  refine List.forall_mem_cons.mpr ⟨lk_const _ _, ?_⟩
  refine List.forall_mem_cons.mpr ⟨lk_const _ _, ?_⟩
  refine List.forall_mem_cons.mpr ⟨trivial, ?_⟩
  refine List.forall_mem_cons.mpr ⟨lk_aload _ _, ?_⟩
  refine List.forall_mem_cons.mpr ⟨lk_const _ _, ?_⟩
  refine List.forall_mem_cons.mpr ⟨trivial, ?_⟩
  refine List.forall_mem_cons.mpr ⟨lk_goto _, ?_⟩
  refine List.forall_mem_cons.mpr ⟨lk_aload _ _, ?_⟩
  refine List.forall_mem_cons.mpr ⟨lk_const _ _, ?_⟩
  refine List.forall_mem_cons.mpr ⟨trivial, ?_⟩
  refine List.forall_mem_cons.mpr ⟨lk_goto _, ?_⟩
  refine List.forall_mem_cons.mpr ⟨lk_aload _ _, ?_⟩
  refine List.forall_mem_cons.mpr ⟨lk_const _ _, ?_⟩
  refine List.forall_mem_cons.mpr ⟨trivial, ?_⟩
  refine List.forall_mem_cons.mpr ⟨lk_goto _, ?_⟩
  refine List.forall_mem_cons.mpr ⟨lk_aload _ _, ?_⟩
  refine List.forall_mem_cons.mpr ⟨lk_iload _ _, ?_⟩
  refine List.forall_mem_cons.mpr ⟨trivial, ?_⟩
  refine List.forall_mem_cons.mpr ⟨trivial, ?_⟩
  refine List.forall_mem_cons.mpr ⟨lk_pop _, ?_⟩
  refine List.forall_mem_cons.mpr ⟨lk_aload _ _, ?_⟩
  refine List.forall_mem_cons.mpr ⟨lk_const _ _, ?_⟩
  refine List.forall_mem_cons.mpr ⟨lk_iload _ _, ?_⟩
  refine List.forall_mem_cons.mpr ⟨trivial, ?_⟩
  refine List.forall_mem_cons.mpr ⟨lk_aload _ _, ?_⟩
  refine List.forall_mem_cons.mpr ⟨trivial, ?_⟩
  refine List.forall_mem_cons.mpr ⟨lk_goto _, ?_⟩
  refine List.forall_mem_cons.mpr ⟨lk_aload _ _, ?_⟩
  refine List.forall_mem_cons.mpr ⟨lk_iload _ _, ?_⟩
  refine List.forall_mem_cons.mpr ⟨lk_const _ _, ?_⟩
  refine List.forall_mem_cons.mpr ⟨lk_bin _ _, ?_⟩
  refine List.forall_mem_cons.mpr ⟨trivial, ?_⟩
  refine List.forall_mem_cons.mpr ⟨trivial, ?_⟩
  refine List.forall_mem_cons.mpr ⟨lk_if _ _ _, ?_⟩
  refine List.forall_mem_cons.mpr ⟨lk_iinc _ _ _, ?_⟩
  refine List.forall_mem_cons.mpr ⟨lk_aload _ _, ?_⟩
  refine List.forall_mem_cons.mpr ⟨lk_iload _ _, ?_⟩
  refine List.forall_mem_cons.mpr ⟨lk_aload _ _, ?_⟩
  refine List.forall_mem_cons.mpr ⟨lk_iload _ _, ?_⟩
  refine List.forall_mem_cons.mpr ⟨trivial, ?_⟩
  refine List.forall_mem_cons.mpr ⟨lk_aload _ _, ?_⟩
  refine List.forall_mem_cons.mpr ⟨lk_iload _ _, ?_⟩
  refine List.forall_mem_cons.mpr ⟨trivial, ?_⟩
  refine List.forall_mem_cons.mpr ⟨trivial, ?_⟩
  refine List.forall_mem_cons.mpr ⟨lk_goto _, ?_⟩
  refine List.forall_mem_cons.mpr ⟨lk_aload _ _, ?_⟩
  refine List.forall_mem_cons.mpr ⟨lk_const _ _, ?_⟩
  refine List.forall_mem_cons.mpr ⟨lk_aload _ _, ?_⟩
  refine List.forall_mem_cons.mpr ⟨lk_const _ _, ?_⟩
  refine List.forall_mem_cons.mpr ⟨trivial, ?_⟩
  refine List.forall_mem_cons.mpr ⟨lk_if _ _ _, ?_⟩
  refine List.forall_mem_cons.mpr ⟨lk_iload _ _, ?_⟩
  refine List.forall_mem_cons.mpr ⟨trivial, ?_⟩
  refine List.forall_mem_cons.mpr ⟨lk_goto _, ?_⟩
  refine List.forall_mem_cons.mpr ⟨lk_iload _ _, ?_⟩
  refine List.forall_mem_cons.mpr ⟨trivial, ?_⟩
  refine List.forall_mem_cons.mpr ⟨lk_aload _ _, ?_⟩
  refine List.forall_mem_cons.mpr ⟨trivial, ?_⟩
  refine List.forall_mem_cons.mpr ⟨lk_goto _, ?_⟩
  refine List.forall_mem_cons.mpr ⟨lk_aload _ _, ?_⟩
  refine List.forall_mem_cons.mpr ⟨lk_iload _ _, ?_⟩
  refine List.forall_mem_cons.mpr ⟨trivial, ?_⟩
  refine List.forall_mem_cons.mpr ⟨lk_goto _, ?_⟩
  refine List.forall_mem_cons.mpr ⟨lk_aload _ _, ?_⟩
  refine List.forall_mem_cons.mpr ⟨lk_const _ _, ?_⟩
  refine List.forall_mem_cons.mpr ⟨lk_aload _ _, ?_⟩
  refine List.forall_mem_cons.mpr ⟨lk_getf _ _ _, ?_⟩
  refine List.forall_mem_cons.mpr ⟨trivial, ?_⟩
  refine List.forall_mem_cons.mpr ⟨trivial, ?_⟩
  refine List.forall_mem_cons.mpr ⟨lk_aload _ _, ?_⟩
  refine List.forall_mem_cons.mpr ⟨lk_const _ _, ?_⟩
  refine List.forall_mem_cons.mpr ⟨lk_iload _ _, ?_⟩
  refine List.forall_mem_cons.mpr ⟨trivial, ?_⟩
  refine List.forall_mem_cons.mpr ⟨lk_aload _ _, ?_⟩
  refine List.forall_mem_cons.mpr ⟨lk_const _ _, ?_⟩
  refine List.forall_mem_cons.mpr ⟨trivial, ?_⟩
  refine List.forall_mem_cons.mpr ⟨lk_goto _, ?_⟩
  refine List.forall_mem_cons.mpr ⟨lk_aload _ _, ?_⟩
  refine List.forall_mem_cons.mpr ⟨lk_const _ _, ?_⟩
  refine List.forall_mem_cons.mpr ⟨lk_iload _ _, ?_⟩
  refine List.forall_mem_cons.mpr ⟨trivial, ?_⟩
  refine List.forall_mem_cons.mpr ⟨lk_goto _, ?_⟩
  refine List.forall_mem_cons.mpr ⟨lk_aload _ _, ?_⟩
  refine List.forall_mem_cons.mpr ⟨lk_const _ _, ?_⟩
  refine List.forall_mem_cons.mpr ⟨lk_iload _ _, ?_⟩
  refine List.forall_mem_cons.mpr ⟨trivial, ?_⟩
  refine List.forall_mem_cons.mpr ⟨lk_goto _, ?_⟩
  refine List.forall_mem_cons.mpr ⟨lk_aload _ _, ?_⟩
  refine List.forall_mem_cons.mpr ⟨lk_const _ _, ?_⟩
  refine List.forall_mem_cons.mpr ⟨lk_aload _ _, ?_⟩
  refine List.forall_mem_cons.mpr ⟨lk_getf _ _ _, ?_⟩
  refine List.forall_mem_cons.mpr ⟨trivial, ?_⟩
  refine List.forall_mem_cons.mpr ⟨trivial, ?_⟩
  refine List.forall_mem_cons.mpr ⟨lk_aload _ _, ?_⟩
  refine List.forall_mem_cons.mpr ⟨lk_const _ _, ?_⟩
  refine List.forall_mem_cons.mpr ⟨lk_iload _ _, ?_⟩
  refine List.forall_mem_cons.mpr ⟨trivial, ?_⟩
  refine List.forall_mem_cons.mpr ⟨lk_aload _ _, ?_⟩
  refine List.forall_mem_cons.mpr ⟨lk_aload _ _, ?_⟩
  refine List.forall_mem_cons.mpr ⟨lk_iload _ _, ?_⟩
  refine List.forall_mem_cons.mpr ⟨trivial, ?_⟩
  refine List.forall_mem_cons.mpr ⟨trivial, ?_⟩
  refine List.forall_mem_cons.mpr ⟨lk_goto _, ?_⟩
  refine List.forall_mem_cons.mpr ⟨lk_aload _ _, ?_⟩
  refine List.forall_mem_cons.mpr ⟨lk_const _ _, ?_⟩
  refine List.forall_mem_cons.mpr ⟨trivial, ?_⟩
  refine List.forall_mem_cons.mpr ⟨lk_goto _, ?_⟩
  refine List.forall_mem_cons.mpr ⟨lk_aload _ _, ?_⟩
  refine List.forall_mem_cons.mpr ⟨lk_const _ _, ?_⟩
  refine List.forall_mem_cons.mpr ⟨lk_const _ _, ?_⟩
  refine List.forall_mem_cons.mpr ⟨trivial, ?_⟩
  refine List.forall_mem_cons.mpr ⟨lk_goto _, ?_⟩
  refine List.forall_mem_cons.mpr ⟨lk_aload _ _, ?_⟩
  refine List.forall_mem_cons.mpr ⟨lk_aload _ _, ?_⟩
  refine List.forall_mem_cons.mpr ⟨lk_getf _ _ _, ?_⟩
  refine List.forall_mem_cons.mpr ⟨trivial, ?_⟩
  refine List.forall_mem_cons.mpr ⟨lk_const _ _, ?_⟩
  refine List.forall_mem_cons.mpr ⟨lk_bin _ _, ?_⟩
  refine List.forall_mem_cons.mpr ⟨trivial, ?_⟩
  refine List.forall_mem_cons.mpr ⟨lk_aload _ _, ?_⟩
  refine List.forall_mem_cons.mpr ⟨lk_const _ _, ?_⟩
  refine List.forall_mem_cons.mpr ⟨lk_const _ _, ?_⟩
  refine List.forall_mem_cons.mpr ⟨trivial, ?_⟩
  refine List.forall_mem_cons.mpr ⟨lk_aload _ _, ?_⟩
  refine List.forall_mem_cons.mpr ⟨lk_const _ _, ?_⟩
  refine List.forall_mem_cons.mpr ⟨trivial, ?_⟩
  refine List.forall_mem_cons.mpr ⟨lk_goto _, ?_⟩
  refine List.forall_mem_cons.mpr ⟨lk_aload _ _, ?_⟩
  refine List.forall_mem_cons.mpr ⟨lk_const _ _, ?_⟩
  refine List.forall_mem_cons.mpr ⟨lk_const _ _, ?_⟩
  refine List.forall_mem_cons.mpr ⟨trivial, ?_⟩
  refine List.forall_mem_cons.mpr ⟨lk_aload _ _, ?_⟩
  refine List.forall_mem_cons.mpr ⟨lk_const _ _, ?_⟩
  refine List.forall_mem_cons.mpr ⟨trivial, ?_⟩
  refine List.forall_mem_cons.mpr ⟨lk_goto _, ?_⟩
  refine List.forall_mem_cons.mpr ⟨lk_iinc _ _ _, ?_⟩
  refine List.forall_mem_cons.mpr ⟨lk_aload _ _, ?_⟩
  refine List.forall_mem_cons.mpr ⟨lk_iload _ _, ?_⟩
  refine List.forall_mem_cons.mpr ⟨lk_aload _ _, ?_⟩
  refine List.forall_mem_cons.mpr ⟨lk_iload _ _, ?_⟩
  refine List.forall_mem_cons.mpr ⟨trivial, ?_⟩
  refine List.forall_mem_cons.mpr ⟨trivial, ?_⟩
  refine List.forall_mem_cons.mpr ⟨lk_goto _, ?_⟩
  refine List.forall_mem_cons.mpr ⟨lk_aload _ _, ?_⟩
  refine List.forall_mem_cons.mpr ⟨lk_const _ _, ?_⟩
  refine List.forall_mem_cons.mpr ⟨trivial, ?_⟩
  refine List.forall_mem_cons.mpr ⟨lk_pop _, ?_⟩
  refine List.forall_mem_cons.mpr ⟨lk_aload _ _, ?_⟩
  refine List.forall_mem_cons.mpr ⟨lk_const _ _, ?_⟩
  refine List.forall_mem_cons.mpr ⟨lk_const _ _, ?_⟩
  refine List.forall_mem_cons.mpr ⟨trivial, ?_⟩
  refine List.forall_mem_cons.mpr ⟨lk_aload _ _, ?_⟩
  refine List.forall_mem_cons.mpr ⟨trivial, ?_⟩
  refine List.forall_mem_cons.mpr ⟨lk_goto _, ?_⟩
  refine List.forall_mem_cons.mpr ⟨lk_aload _ _, ?_⟩
  refine List.forall_mem_cons.mpr ⟨trivial, ?_⟩
  refine List.forall_mem_cons.mpr ⟨lk_goto _, ?_⟩
  refine List.forall_mem_cons.mpr ⟨lk_iinc _ _ _, ?_⟩
  refine List.forall_mem_cons.mpr ⟨lk_goto _, ?_⟩
  refine List.forall_mem_cons.mpr ⟨lk_aload _ _, ?_⟩
  refine List.forall_mem_cons.mpr ⟨lk_getf _ _ _, ?_⟩
  refine List.forall_mem_cons.mpr ⟨trivial, ?_⟩
  exact fun _ h => absurd h List.not_mem_nil
theorem lk_87 : ∀ pc en, mx_M 87 pc = some en → lk_E en := fun pc en h => lm_87 _ (mx_find_mem mt_87 pc en h)
theorem lm_94 : ∀ q ∈ mt_94, lk_E q.2 := by
  refine List.forall_mem_cons.mpr ⟨lk_iload _ _, ?_⟩
  refine List.forall_mem_cons.mpr ⟨lk_istore _ _, ?_⟩
  refine List.forall_mem_cons.mpr ⟨lk_iload _ _, ?_⟩
  refine List.forall_mem_cons.mpr ⟨lk_iload _ _, ?_⟩
  refine List.forall_mem_cons.mpr ⟨lk_icmp _ _ _, ?_⟩
  refine List.forall_mem_cons.mpr ⟨lk_aload _ _, ?_⟩
  refine List.forall_mem_cons.mpr ⟨lk_getf _ _ _, ?_⟩
  refine List.forall_mem_cons.mpr ⟨lk_iload _ _, ?_⟩
  refine List.forall_mem_cons.mpr ⟨trivial, ?_⟩
  refine List.forall_mem_cons.mpr ⟨lk_if _ _ _, ?_⟩
  refine List.forall_mem_cons.mpr ⟨lk_goto _, ?_⟩
  refine List.forall_mem_cons.mpr ⟨lk_aload _ _, ?_⟩
  refine List.forall_mem_cons.mpr ⟨lk_getf _ _ _, ?_⟩
  refine List.forall_mem_cons.mpr ⟨lk_iload _ _, ?_⟩
  refine List.forall_mem_cons.mpr ⟨lk_icmp _ _ _, ?_⟩
  refine List.forall_mem_cons.mpr ⟨lk_aload _ _, ?_⟩
  refine List.forall_mem_cons.mpr ⟨lk_const _ _, ?_⟩
  refine List.forall_mem_cons.mpr ⟨lk_iload _ _, ?_⟩
  refine List.forall_mem_cons.mpr ⟨trivial, ?_⟩
  refine List.forall_mem_cons.mpr ⟨lk_aload _ _, ?_⟩
  refine List.forall_mem_cons.mpr ⟨lk_const _ _, ?_⟩
  refine List.forall_mem_cons.mpr ⟨lk_putf _ _ _ _, ?_⟩
  refine List.forall_mem_cons.mpr ⟨lk_goto _, ?_⟩
  refine List.forall_mem_cons.mpr ⟨lk_aload _ _, ?_⟩
  refine List.forall_mem_cons.mpr ⟨lk_iload _ _, ?_⟩
  refine List.forall_mem_cons.mpr ⟨trivial, ?_⟩
  refine List.forall_mem_cons.mpr ⟨lk_aload _ _, ?_⟩
  refine List.forall_mem_cons.mpr ⟨lk_const _ _, ?_⟩
  refine List.forall_mem_cons.mpr ⟨lk_iload _ _, ?_⟩
  refine List.forall_mem_cons.mpr ⟨trivial, ?_⟩
  refine List.forall_mem_cons.mpr ⟨lk_aload _ _, ?_⟩
  refine List.forall_mem_cons.mpr ⟨lk_const _ _, ?_⟩
  refine List.forall_mem_cons.mpr ⟨lk_putf _ _ _ _, ?_⟩
  refine List.forall_mem_cons.mpr ⟨lk_aload _ _, ?_⟩
  refine List.forall_mem_cons.mpr ⟨lk_getf _ _ _, ?_⟩
  refine List.forall_mem_cons.mpr ⟨lk_iload _ _, ?_⟩
  refine List.forall_mem_cons.mpr ⟨lk_const _ _, ?_⟩
  refine List.forall_mem_cons.mpr ⟨trivial, ?_⟩
  refine List.forall_mem_cons.mpr ⟨lk_iinc _ _ _, ?_⟩
  refine List.forall_mem_cons.mpr ⟨lk_goto _, ?_⟩
  refine List.forall_mem_cons.mpr ⟨trivial, ?_⟩
  exact fun _ h => absurd h List.not_mem_nil
theorem lk_94 : ∀ pc en, mx_M 94 pc = some en → lk_E en := fun pc en h => lm_94 _ (mx_find_mem mt_94 pc en h)
theorem lm_98 : ∀ q ∈ mt_98, lk_E q.2 := by
  refine List.forall_mem_cons.mpr ⟨lk_aload _ _, ?_⟩
  refine List.forall_mem_cons.mpr ⟨lk_getf _ _ _, ?_⟩
  refine List.forall_mem_cons.mpr ⟨trivial, ?_⟩
  refine List.forall_mem_cons.mpr ⟨lk_const _ _, ?_⟩
  refine List.forall_mem_cons.mpr ⟨lk_bin _ _, ?_⟩
  refine List.forall_mem_cons.mpr ⟨lk_istore _ _, ?_⟩
  refine List.forall_mem_cons.mpr ⟨lk_const _ _, ?_⟩
  refine List.forall_mem_cons.mpr ⟨lk_istore _ _, ?_⟩
  refine List.forall_mem_cons.mpr ⟨lk_iload _ _, ?_⟩
  refine List.forall_mem_cons.mpr ⟨lk_iload _ _, ?_⟩
  refine List.forall_mem_cons.mpr ⟨lk_icmp _ _ _, ?_⟩
  refine List.forall_mem_cons.mpr ⟨lk_aload _ _, ?_⟩
  refine List.forall_mem_cons.mpr ⟨lk_getf _ _ _, ?_⟩
  refine List.forall_mem_cons.mpr ⟨lk_iload _ _, ?_⟩
  refine List.forall_mem_cons.mpr ⟨trivial, ?_⟩
  refine List.forall_mem_cons.mpr ⟨lk_const _ _, ?_⟩
  refine List.forall_mem_cons.mpr ⟨lk_icmp _ _ _, ?_⟩
  refine List.forall_mem_cons.mpr ⟨lk_aload _ _, ?_⟩
  refine List.forall_mem_cons.mpr ⟨lk_getf _ _ _, ?_⟩
  refine List.forall_mem_cons.mpr ⟨lk_iload _ _, ?_⟩
  refine List.forall_mem_cons.mpr ⟨trivial, ?_⟩
  refine List.forall_mem_cons.mpr ⟨lk_iload _ _, ?_⟩
  refine List.forall_mem_cons.mpr ⟨lk_icmp _ _ _, ?_⟩
  refine List.forall_mem_cons.mpr ⟨lk_aload _ _, ?_⟩
  refine List.forall_mem_cons.mpr ⟨lk_iload _ _, ?_⟩
  refine List.forall_mem_cons.mpr ⟨lk_iload _ _, ?_⟩
  refine List.forall_mem_cons.mpr ⟨lk_const _ _, ?_⟩
  refine List.forall_mem_cons.mpr ⟨lk_bin _ _, ?_⟩
  refine List.forall_mem_cons.mpr ⟨trivial, ?_⟩
  refine List.forall_mem_cons.mpr ⟨lk_iinc _ _ _, ?_⟩
  refine List.forall_mem_cons.mpr ⟨lk_goto _, ?_⟩
  refine List.forall_mem_cons.mpr ⟨lk_aload _ _, ?_⟩
  refine List.forall_mem_cons.mpr ⟨lk_iload _ _, ?_⟩
  refine List.forall_mem_cons.mpr ⟨trivial, ?_⟩
  refine List.forall_mem_cons.mpr ⟨lk_aload _ _, ?_⟩
  refine List.forall_mem_cons.mpr ⟨lk_const _ _, ?_⟩
  refine List.forall_mem_cons.mpr ⟨lk_iload _ _, ?_⟩
  refine List.forall_mem_cons.mpr ⟨trivial, ?_⟩
  refine List.forall_mem_cons.mpr ⟨lk_aload _ _, ?_⟩
  refine List.forall_mem_cons.mpr ⟨lk_const _ _, ?_⟩
  refine List.forall_mem_cons.mpr ⟨trivial, ?_⟩
  refine List.forall_mem_cons.mpr ⟨trivial, ?_⟩
  exact fun _ h => absurd h List.not_mem_nil
theorem lk_98 : ∀ pc en, mx_M 98 pc = some en → lk_E en := fun pc en h => lm_98 _ (mx_find_mem mt_98 pc en h)
theorem lm_122 : ∀ q ∈ mt_122, lk_E q.2 := by
  refine List.forall_mem_cons.mpr ⟨lk_const _ _, ?_⟩
  refine List.forall_mem_cons.mpr ⟨lk_istore _ _, ?_⟩
  refine List.forall_mem_cons.mpr ⟨lk_iload _ _, ?_⟩
  refine List.forall_mem_cons.mpr ⟨lk_aload _ _, ?_⟩
  refine List.forall_mem_cons.mpr ⟨lk_getf _ _ _, ?_⟩
  refine List.forall_mem_cons.mpr ⟨lk_icmp _ _ _, ?_⟩
  refine List.forall_mem_cons.mpr ⟨lk_aload _ _, ?_⟩
  refine List.forall_mem_cons.mpr ⟨lk_getf _ _ _, ?_⟩
  refine List.forall_mem_cons.mpr ⟨lk_iload _ _, ?_⟩
  refine List.forall_mem_cons.mpr ⟨lk_ald _ _, ?_⟩
  refine List.forall_mem_cons.mpr ⟨lk_const _ _, ?_⟩
  refine List.forall_mem_cons.mpr ⟨lk_icmp _ _ _, ?_⟩
  refine List.forall_mem_cons.mpr ⟨lk_aload _ _, ?_⟩
  refine List.forall_mem_cons.mpr ⟨lk_getf _ _ _, ?_⟩
  refine List.forall_mem_cons.mpr ⟨lk_iload _ _, ?_⟩
  refine List.forall_mem_cons.mpr ⟨lk_ald _ _, ?_⟩
  refine List.forall_mem_cons.mpr ⟨lk_iload _ _, ?_⟩
  refine List.forall_mem_cons.mpr ⟨lk_icmp _ _ _, ?_⟩
  refine List.forall_mem_cons.mpr ⟨lk_iload _ _, ?_⟩
  refine List.forall_mem_cons.mpr ⟨trivial, ?_⟩
  refine List.forall_mem_cons.mpr ⟨lk_iinc _ _ _, ?_⟩
  refine List.forall_mem_cons.mpr ⟨lk_goto _, ?_⟩
  refine List.forall_mem_cons.mpr ⟨lk_const _ _, ?_⟩
  refine List.forall_mem_cons.mpr ⟨trivial, ?_⟩
  exact fun _ h => absurd h List.not_mem_nil
theorem lk_122 : ∀ pc en, mx_M 122 pc = some en → lk_E en := fun pc en h => lm_122 _ (mx_find_mem mt_122 pc en h)
theorem lm_123 : ∀ q ∈ mt_123, lk_E q.2 := by
  refine List.forall_mem_cons.mpr ⟨lk_const _ _, ?_⟩
  refine List.forall_mem_cons.mpr ⟨lk_istore _ _, ?_⟩
  refine List.forall_mem_cons.mpr ⟨lk_const _ _, ?_⟩
  refine List.forall_mem_cons.mpr ⟨lk_istore _ _, ?_⟩
  refine List.forall_mem_cons.mpr ⟨lk_iload _ _, ?_⟩
  refine List.forall_mem_cons.mpr ⟨lk_aload _ _, ?_⟩
  refine List.forall_mem_cons.mpr ⟨lk_getf _ _ _, ?_⟩
  refine List.forall_mem_cons.mpr ⟨lk_icmp _ _ _, ?_⟩
  refine List.forall_mem_cons.mpr ⟨lk_aload _ _, ?_⟩
  refine List.forall_mem_cons.mpr ⟨lk_getf _ _ _, ?_⟩
  refine List.forall_mem_cons.mpr ⟨lk_iload _ _, ?_⟩
  refine List.forall_mem_cons.mpr ⟨lk_ald _ _, ?_⟩
  refine List.forall_mem_cons.mpr ⟨lk_istore _ _, ?_⟩
  refine List.forall_mem_cons.mpr ⟨lk_iload _ _, ?_⟩
  refine List.forall_mem_cons.mpr ⟨lk_if _ _ _, ?_⟩
  refine List.forall_mem_cons.mpr ⟨lk_iload _ _, ?_⟩
  refine List.forall_mem_cons.mpr ⟨lk_aload _ _, ?_⟩
  refine List.forall_mem_cons.mpr ⟨lk_getf _ _ _, ?_⟩
  refine List.forall_mem_cons.mpr ⟨lk_iload _ _, ?_⟩
  refine List.forall_mem_cons.mpr ⟨lk_ald _ _, ?_⟩
  refine List.forall_mem_cons.mpr ⟨trivial, ?_⟩
  refine List.forall_mem_cons.mpr ⟨lk_if _ _ _, ?_⟩
  refine List.forall_mem_cons.mpr ⟨lk_const _ _, ?_⟩
  refine List.forall_mem_cons.mpr ⟨lk_goto _, ?_⟩
  refine List.forall_mem_cons.mpr ⟨lk_const _ _, ?_⟩
  refine List.forall_mem_cons.mpr ⟨lk_istore _ _, ?_⟩
  refine List.forall_mem_cons.mpr ⟨lk_iload _ _, ?_⟩
  refine List.forall_mem_cons.mpr ⟨lk_if _ _ _, ?_⟩
  refine List.forall_mem_cons.mpr ⟨lk_iload _ _, ?_⟩
  refine List.forall_mem_cons.mpr ⟨lk_const _ _, ?_⟩
  refine List.forall_mem_cons.mpr ⟨lk_icmp _ _ _, ?_⟩
  refine List.forall_mem_cons.mpr ⟨lk_aload _ _, ?_⟩
  refine List.forall_mem_cons.mpr ⟨lk_aload _ _, ?_⟩
  refine List.forall_mem_cons.mpr ⟨lk_getf _ _ _, ?_⟩
  refine List.forall_mem_cons.mpr ⟨lk_iload _ _, ?_⟩
  refine List.forall_mem_cons.mpr ⟨lk_ald _ _, ?_⟩
  refine List.forall_mem_cons.mpr ⟨trivial, ?_⟩
  refine List.forall_mem_cons.mpr ⟨lk_iload _ _, ?_⟩
  refine List.forall_mem_cons.mpr ⟨lk_icmp _ _ _, ?_⟩
  refine List.forall_mem_cons.mpr ⟨lk_const _ _, ?_⟩
  refine List.forall_mem_cons.mpr ⟨lk_goto _, ?_⟩
  refine List.forall_mem_cons.mpr ⟨lk_const _ _, ?_⟩
  refine List.forall_mem_cons.mpr ⟨lk_istore _ _, ?_⟩
  refine List.forall_mem_cons.mpr ⟨lk_iload _ _, ?_⟩
  refine List.forall_mem_cons.mpr ⟨lk_if _ _ _, ?_⟩
  refine List.forall_mem_cons.mpr ⟨lk_iload _ _, ?_⟩
  refine List.forall_mem_cons.mpr ⟨lk_const _ _, ?_⟩
  refine List.forall_mem_cons.mpr ⟨lk_icmp _ _ _, ?_⟩
  refine List.forall_mem_cons.mpr ⟨lk_iload _ _, ?_⟩
  refine List.forall_mem_cons.mpr ⟨lk_const _ _, ?_⟩
  refine List.forall_mem_cons.mpr ⟨lk_icmp _ _ _, ?_⟩
  refine List.forall_mem_cons.mpr ⟨lk_aload _ _, ?_⟩
  refine List.forall_mem_cons.mpr ⟨lk_aload _ _, ?_⟩
  refine List.forall_mem_cons.mpr ⟨lk_getf _ _ _, ?_⟩
  refine List.forall_mem_cons.mpr ⟨lk_iload _ _, ?_⟩
  refine List.forall_mem_cons.mpr ⟨lk_ald _ _, ?_⟩
  refine List.forall_mem_cons.mpr ⟨trivial, ?_⟩
  refine List.forall_mem_cons.mpr ⟨lk_const _ _, ?_⟩
  refine List.forall_mem_cons.mpr ⟨lk_icmp _ _ _, ?_⟩
  refine List.forall_mem_cons.mpr ⟨lk_const _ _, ?_⟩
  refine List.forall_mem_cons.mpr ⟨lk_goto _, ?_⟩
  refine List.forall_mem_cons.mpr ⟨lk_const _ _, ?_⟩
  refine List.forall_mem_cons.mpr ⟨lk_istore _ _, ?_⟩
  refine List.forall_mem_cons.mpr ⟨lk_iload _ _, ?_⟩
  refine List.forall_mem_cons.mpr ⟨lk_if _ _ _, ?_⟩
  refine List.forall_mem_cons.mpr ⟨lk_iload _ _, ?_⟩
  refine List.forall_mem_cons.mpr ⟨lk_const _ _, ?_⟩
  refine List.forall_mem_cons.mpr ⟨lk_icmp _ _ _, ?_⟩
  refine List.forall_mem_cons.mpr ⟨lk_iload _ _, ?_⟩
  refine List.forall_mem_cons.mpr ⟨lk_const _ _, ?_⟩
  refine List.forall_mem_cons.mpr ⟨lk_bin _ _, ?_⟩
  refine List.forall_mem_cons.mpr ⟨lk_aload _ _, ?_⟩
  refine List.forall_mem_cons.mpr ⟨lk_getf _ _ _, ?_⟩
  refine List.forall_mem_cons.mpr ⟨lk_icmp _ _ _, ?_⟩
  refine List.forall_mem_cons.mpr ⟨lk_aload _ _, ?_⟩
  refine List.forall_mem_cons.mpr ⟨lk_getf _ _ _, ?_⟩
  refine List.forall_mem_cons.mpr ⟨lk_iload _ _, ?_⟩
  refine List.forall_mem_cons.mpr ⟨lk_const _ _, ?_⟩
  refine List.forall_mem_cons.mpr ⟨lk_bin _ _, ?_⟩
  refine List.forall_mem_cons.mpr ⟨lk_ald _ _, ?_⟩
  refine List.forall_mem_cons.mpr ⟨lk_const _ _, ?_⟩
  refine List.forall_mem_cons.mpr ⟨lk_icmp _ _ _, ?_⟩
  refine List.forall_mem_cons.mpr ⟨lk_const _ _, ?_⟩
  refine List.forall_mem_cons.mpr ⟨lk_goto _, ?_⟩
  refine List.forall_mem_cons.mpr ⟨lk_const _ _, ?_⟩
  refine List.forall_mem_cons.mpr ⟨lk_istore _ _, ?_⟩
  refine List.forall_mem_cons.mpr ⟨lk_iinc _ _ _, ?_⟩
  refine List.forall_mem_cons.mpr ⟨lk_goto _, ?_⟩
  refine List.forall_mem_cons.mpr ⟨lk_iload _ _, ?_⟩
  refine List.forall_mem_cons.mpr ⟨trivial, ?_⟩
  exact fun _ h => absurd h List.not_mem_nil
theorem lk_123 : ∀ pc en, mx_M 123 pc = some en → lk_E en := fun pc en h => lm_123 _ (mx_find_mem mt_123 pc en h)
theorem lm_128 : ∀ q ∈ mt_128, lk_E q.2 := by
  refine List.forall_mem_cons.mpr ⟨lk_const _ _, ?_⟩
  refine List.forall_mem_cons.mpr ⟨lk_istore _ _, ?_⟩
  refine List.forall_mem_cons.mpr ⟨lk_iload _ _, ?_⟩
  refine List.forall_mem_cons.mpr ⟨lk_aload _ _, ?_⟩
  refine List.forall_mem_cons.mpr ⟨lk_getf _ _ _, ?_⟩
  refine List.forall_mem_cons.mpr ⟨lk_icmp _ _ _, ?_⟩
  refine List.forall_mem_cons.mpr ⟨lk_aload _ _, ?_⟩
  refine List.forall_mem_cons.mpr ⟨lk_getf _ _ _, ?_⟩
  refine List.forall_mem_cons.mpr ⟨lk_iload _ _, ?_⟩
  refine List.forall_mem_cons.mpr ⟨lk_const _ _, ?_⟩
  refine List.forall_mem_cons.mpr ⟨lk_ast _ _, ?_⟩
  refine List.forall_mem_cons.mpr ⟨lk_aload _ _, ?_⟩
  refine List.forall_mem_cons.mpr ⟨lk_getf _ _ _, ?_⟩
  refine List.forall_mem_cons.mpr ⟨lk_iload _ _, ?_⟩
  refine List.forall_mem_cons.mpr ⟨lk_const _ _, ?_⟩
  refine List.forall_mem_cons.mpr ⟨lk_ast _ _, ?_⟩
  refine List.forall_mem_cons.mpr ⟨lk_iinc _ _ _, ?_⟩
  refine List.forall_mem_cons.mpr ⟨lk_goto _, ?_⟩
  refine List.forall_mem_cons.mpr ⟨lk_aload _ _, ?_⟩
  refine List.forall_mem_cons.mpr ⟨lk_getf _ _ _, ?_⟩
  refine List.forall_mem_cons.mpr ⟨lk_const _ _, ?_⟩
  refine List.forall_mem_cons.mpr ⟨lk_const _ _, ?_⟩
  refine List.forall_mem_cons.mpr ⟨lk_ast _ _, ?_⟩
  refine List.forall_mem_cons.mpr ⟨lk_const _ _, ?_⟩
  refine List.forall_mem_cons.mpr ⟨lk_istore _ _, ?_⟩
  refine List.forall_mem_cons.mpr ⟨lk_const _ _, ?_⟩
  refine List.forall_mem_cons.mpr ⟨lk_istore _ _, ?_⟩
  refine List.forall_mem_cons.mpr ⟨lk_iload _ _, ?_⟩
  refine List.forall_mem_cons.mpr ⟨lk_if _ _ _, ?_⟩
  refine List.forall_mem_cons.mpr ⟨lk_iload _ _, ?_⟩
  refine List.forall_mem_cons.mpr ⟨lk_if _ _ _, ?_⟩
  refine List.forall_mem_cons.mpr ⟨lk_const _ _, ?_⟩
  refine List.forall_mem_cons.mpr ⟨lk_istore _ _, ?_⟩
  refine List.forall_mem_cons.mpr ⟨lk_const _ _, ?_⟩
  refine List.forall_mem_cons.mpr ⟨lk_istore _ _, ?_⟩
  refine List.forall_mem_cons.mpr ⟨lk_iload _ _, ?_⟩
  refine List.forall_mem_cons.mpr ⟨lk_aload _ _, ?_⟩
  refine List.forall_mem_cons.mpr ⟨lk_getf _ _ _, ?_⟩
  refine List.forall_mem_cons.mpr ⟨lk_icmp _ _ _, ?_⟩
  refine List.forall_mem_cons.mpr ⟨lk_iload _ _, ?_⟩
  refine List.forall_mem_cons.mpr ⟨lk_if _ _ _, ?_⟩
  refine List.forall_mem_cons.mpr ⟨lk_aload _ _, ?_⟩
  refine List.forall_mem_cons.mpr ⟨lk_getf _ _ _, ?_⟩
  refine List.forall_mem_cons.mpr ⟨lk_iload _ _, ?_⟩
  refine List.forall_mem_cons.mpr ⟨lk_ald _ _, ?_⟩
  refine List.forall_mem_cons.mpr ⟨lk_const _ _, ?_⟩
  refine List.forall_mem_cons.mpr ⟨lk_icmp _ _ _, ?_⟩
  refine List.forall_mem_cons.mpr ⟨lk_aload _ _, ?_⟩
  refine List.forall_mem_cons.mpr ⟨lk_getf _ _ _, ?_⟩
  refine List.forall_mem_cons.mpr ⟨lk_iload _ _, ?_⟩
  refine List.forall_mem_cons.mpr ⟨lk_ald _ _, ?_⟩
  refine List.forall_mem_cons.mpr ⟨lk_if _ _ _, ?_⟩
  refine List.forall_mem_cons.mpr ⟨lk_goto _, ?_⟩
  refine List.forall_mem_cons.mpr ⟨lk_aload _ _, ?_⟩
  refine List.forall_mem_cons.mpr ⟨lk_getf _ _ _, ?_⟩
  refine List.forall_mem_cons.mpr ⟨lk_iload _ _, ?_⟩
  refine List.forall_mem_cons.mpr ⟨lk_const _ _, ?_⟩
  refine List.forall_mem_cons.mpr ⟨lk_ast _ _, ?_⟩
  refine List.forall_mem_cons.mpr ⟨lk_const _ _, ?_⟩
  refine List.forall_mem_cons.mpr ⟨lk_istore _ _, ?_⟩
  refine List.forall_mem_cons.mpr ⟨lk_aload _ _, ?_⟩
  refine List.forall_mem_cons.mpr ⟨lk_getf _ _ _, ?_⟩
  refine List.forall_mem_cons.mpr ⟨lk_iload _ _, ?_⟩
  refine List.forall_mem_cons.mpr ⟨lk_ald _ _, ?_⟩
  refine List.forall_mem_cons.mpr ⟨lk_aload _ _, ?_⟩
  refine List.forall_mem_cons.mpr ⟨lk_getf _ _ _, ?_⟩
  refine List.forall_mem_cons.mpr ⟨lk_iload _ _, ?_⟩
  refine List.forall_mem_cons.mpr ⟨lk_ald _ _, ?_⟩
  refine List.forall_mem_cons.mpr ⟨trivial, ?_⟩
  refine List.forall_mem_cons.mpr ⟨lk_bin _ _, ?_⟩
  refine List.forall_mem_cons.mpr ⟨lk_istore _ _, ?_⟩
  refine List.forall_mem_cons.mpr ⟨lk_aload _ _, ?_⟩
  refine List.forall_mem_cons.mpr ⟨lk_getf _ _ _, ?_⟩
  refine List.forall_mem_cons.mpr ⟨lk_iload _ _, ?_⟩
  refine List.forall_mem_cons.mpr ⟨lk_ald _ _, ?_⟩
  refine List.forall_mem_cons.mpr ⟨lk_aload _ _, ?_⟩
  refine List.forall_mem_cons.mpr ⟨lk_getf _ _ _, ?_⟩
  refine List.forall_mem_cons.mpr ⟨lk_iload _ _, ?_⟩
  refine List.forall_mem_cons.mpr ⟨lk_ald _ _, ?_⟩
  refine List.forall_mem_cons.mpr ⟨trivial, ?_⟩
  refine List.forall_mem_cons.mpr ⟨lk_icmp _ _ _, ?_⟩
  refine List.forall_mem_cons.mpr ⟨lk_const _ _, ?_⟩
  refine List.forall_mem_cons.mpr ⟨lk_goto _, ?_⟩
  refine List.forall_mem_cons.mpr ⟨lk_const _ _, ?_⟩
  refine List.forall_mem_cons.mpr ⟨lk_istore _ _, ?_⟩
  refine List.forall_mem_cons.mpr ⟨lk_iload _ _, ?_⟩
  refine List.forall_mem_cons.mpr ⟨lk_if _ _ _, ?_⟩
  refine List.forall_mem_cons.mpr ⟨lk_aload _ _, ?_⟩
  refine List.forall_mem_cons.mpr ⟨lk_iload _ _, ?_⟩
  refine List.forall_mem_cons.mpr ⟨lk_const _ _, ?_⟩
  refine List.forall_mem_cons.mpr ⟨trivial, ?_⟩
  refine List.forall_mem_cons.mpr ⟨lk_const _ _, ?_⟩
  refine List.forall_mem_cons.mpr ⟨lk_icmp _ _ _, ?_⟩
  refine List.forall_mem_cons.mpr ⟨lk_aload _ _, ?_⟩
  refine List.forall_mem_cons.mpr ⟨lk_aload _ _, ?_⟩
  refine List.forall_mem_cons.mpr ⟨lk_iload _ _, ?_⟩
  refine List.forall_mem_cons.mpr ⟨lk_const _ _, ?_⟩
  refine List.forall_mem_cons.mpr ⟨trivial, ?_⟩
  refine List.forall_mem_cons.mpr ⟨lk_iload _ _, ?_⟩
  refine List.forall_mem_cons.mpr ⟨trivial, ?_⟩
  refine List.forall_mem_cons.mpr ⟨lk_if _ _ _, ?_⟩
  refine List.forall_mem_cons.mpr ⟨lk_const _ _, ?_⟩
  refine List.forall_mem_cons.mpr ⟨lk_goto _, ?_⟩
  refine List.forall_mem_cons.mpr ⟨lk_const _ _, ?_⟩
  refine List.forall_mem_cons.mpr ⟨lk_istore _ _, ?_⟩
  refine List.forall_mem_cons.mpr ⟨lk_iload _ _, ?_⟩
  refine List.forall_mem_cons.mpr ⟨lk_if _ _ _, ?_⟩
  refine List.forall_mem_cons.mpr ⟨lk_aload _ _, ?_⟩
  refine List.forall_mem_cons.mpr ⟨lk_iload _ _, ?_⟩
  refine List.forall_mem_cons.mpr ⟨lk_const _ _, ?_⟩
  refine List.forall_mem_cons.mpr ⟨trivial, ?_⟩
  refine List.forall_mem_cons.mpr ⟨lk_const _ _, ?_⟩
  refine List.forall_mem_cons.mpr ⟨lk_icmp _ _ _, ?_⟩
  refine List.forall_mem_cons.mpr ⟨lk_aload _ _, ?_⟩
  refine List.forall_mem_cons.mpr ⟨lk_aload _ _, ?_⟩
  refine List.forall_mem_cons.mpr ⟨lk_iload _ _, ?_⟩
  refine List.forall_mem_cons.mpr ⟨lk_const _ _, ?_⟩
  refine List.forall_mem_cons.mpr ⟨trivial, ?_⟩
  refine List.forall_mem_cons.mpr ⟨lk_aload _ _, ?_⟩
  refine List.forall_mem_cons.mpr ⟨lk_getf _ _ _, ?_⟩
  refine List.forall_mem_cons.mpr ⟨lk_iload _ _, ?_⟩
  refine List.forall_mem_cons.mpr ⟨lk_ald _ _, ?_⟩
  refine List.forall_mem_cons.mpr ⟨lk_const _ _, ?_⟩
  refine List.forall_mem_cons.mpr ⟨lk_icmp _ _ _, ?_⟩
  refine List.forall_mem_cons.mpr ⟨lk_iload _ _, ?_⟩
  refine List.forall_mem_cons.mpr ⟨lk_const _ _, ?_⟩
  refine List.forall_mem_cons.mpr ⟨lk_bin _ _, ?_⟩
  refine List.forall_mem_cons.mpr ⟨lk_goto _, ?_⟩
  refine List.forall_mem_cons.mpr ⟨lk_iload _ _, ?_⟩
  refine List.forall_mem_cons.mpr ⟨trivial, ?_⟩
  refine List.forall_mem_cons.mpr ⟨lk_if _ _ _, ?_⟩
  refine List.forall_mem_cons.mpr ⟨lk_const _ _, ?_⟩
  refine List.forall_mem_cons.mpr ⟨lk_goto _, ?_⟩
  refine List.forall_mem_cons.mpr ⟨lk_const _ _, ?_⟩
  refine List.forall_mem_cons.mpr ⟨lk_istore _ _, ?_⟩
  refine List.forall_mem_cons.mpr ⟨lk_iinc _ _ _, ?_⟩
  refine List.forall_mem_cons.mpr ⟨lk_goto _, ?_⟩
  refine List.forall_mem_cons.mpr ⟨lk_goto _, ?_⟩
  refine List.forall_mem_cons.mpr ⟨lk_iload _ _, ?_⟩
  refine List.forall_mem_cons.mpr ⟨trivial, ?_⟩
  exact fun _ h => absurd h List.not_mem_nil
theorem lk_128 : ∀ pc en, mx_M 128 pc = some en → lk_E en := fun pc en h => lm_128 _ (mx_find_mem mt_128 pc en h)
theorem lm_129 : ∀ q ∈ mt_129, lk_E q.2 := by
  refine List.forall_mem_cons.mpr ⟨lk_const _ _, ?_⟩
  refine List.forall_mem_cons.mpr ⟨lk_istore _ _, ?_⟩
  refine List.forall_mem_cons.mpr ⟨lk_const _ _, ?_⟩
  refine List.forall_mem_cons.mpr ⟨lk_istore _ _, ?_⟩
  refine List.forall_mem_cons.mpr ⟨lk_iload _ _, ?_⟩
  refine List.forall_mem_cons.mpr ⟨lk_aload _ _, ?_⟩
  refine List.forall_mem_cons.mpr ⟨lk_getf _ _ _, ?_⟩
  refine List.forall_mem_cons.mpr ⟨lk_icmp _ _ _, ?_⟩
  refine List.forall_mem_cons.mpr ⟨lk_aload _ _, ?_⟩
  refine List.forall_mem_cons.mpr ⟨lk_getf _ _ _, ?_⟩
  refine List.forall_mem_cons.mpr ⟨lk_iload _ _, ?_⟩
  refine List.forall_mem_cons.mpr ⟨lk_aload _ _, ?_⟩
  refine List.forall_mem_cons.mpr ⟨lk_getf _ _ _, ?_⟩
  refine List.forall_mem_cons.mpr ⟨lk_iload _ _, ?_⟩
  refine List.forall_mem_cons.mpr ⟨lk_ald _ _, ?_⟩
  refine List.forall_mem_cons.mpr ⟨lk_const _ _, ?_⟩
  refine List.forall_mem_cons.mpr ⟨lk_icmp _ _ _, ?_⟩
  refine List.forall_mem_cons.mpr ⟨lk_aload _ _, ?_⟩
  refine List.forall_mem_cons.mpr ⟨lk_getf _ _ _, ?_⟩
  refine List.forall_mem_cons.mpr ⟨lk_iload _ _, ?_⟩
  refine List.forall_mem_cons.mpr ⟨lk_ald _ _, ?_⟩
  refine List.forall_mem_cons.mpr ⟨lk_const _ _, ?_⟩
  refine List.forall_mem_cons.mpr ⟨lk_icmp _ _ _, ?_⟩
  refine List.forall_mem_cons.mpr ⟨lk_const _ _, ?_⟩
  refine List.forall_mem_cons.mpr ⟨lk_goto _, ?_⟩
  refine List.forall_mem_cons.mpr ⟨lk_const _ _, ?_⟩
  refine List.forall_mem_cons.mpr ⟨lk_ast _ _, ?_⟩
  refine List.forall_mem_cons.mpr ⟨lk_iload _ _, ?_⟩
  refine List.forall_mem_cons.mpr ⟨lk_aload _ _, ?_⟩
  refine List.forall_mem_cons.mpr ⟨lk_getf _ _ _, ?_⟩
  refine List.forall_mem_cons.mpr ⟨lk_iload _ _, ?_⟩
  refine List.forall_mem_cons.mpr ⟨lk_ald _ _, ?_⟩
  refine List.forall_mem_cons.mpr ⟨lk_if _ _ _, ?_⟩
  refine List.forall_mem_cons.mpr ⟨lk_const _ _, ?_⟩
  refine List.forall_mem_cons.mpr ⟨lk_goto _, ?_⟩
  refine List.forall_mem_cons.mpr ⟨lk_const _ _, ?_⟩
  refine List.forall_mem_cons.mpr ⟨lk_bin _ _, ?_⟩
  refine List.forall_mem_cons.mpr ⟨lk_istore _ _, ?_⟩
  refine List.forall_mem_cons.mpr ⟨lk_iinc _ _ _, ?_⟩
  refine List.forall_mem_cons.mpr ⟨lk_goto _, ?_⟩
  refine List.forall_mem_cons.mpr ⟨lk_const _ _, ?_⟩
  refine List.forall_mem_cons.mpr ⟨lk_istore _ _, ?_⟩
  refine List.forall_mem_cons.mpr ⟨lk_iload _ _, ?_⟩
  refine List.forall_mem_cons.mpr ⟨lk_if _ _ _, ?_⟩
  refine List.forall_mem_cons.mpr ⟨lk_const _ _, ?_⟩
  refine List.forall_mem_cons.mpr ⟨lk_istore _ _, ?_⟩
  refine List.forall_mem_cons.mpr ⟨lk_const _ _, ?_⟩
  refine List.forall_mem_cons.mpr ⟨lk_istore _ _, ?_⟩
  refine List.forall_mem_cons.mpr ⟨lk_iload _ _, ?_⟩
  refine List.forall_mem_cons.mpr ⟨lk_aload _ _, ?_⟩
  refine List.forall_mem_cons.mpr ⟨lk_getf _ _ _, ?_⟩
  refine List.forall_mem_cons.mpr ⟨lk_icmp _ _ _, ?_⟩
  refine List.forall_mem_cons.mpr ⟨lk_aload _ _, ?_⟩
  refine List.forall_mem_cons.mpr ⟨lk_getf _ _ _, ?_⟩
  refine List.forall_mem_cons.mpr ⟨lk_iload _ _, ?_⟩
  refine List.forall_mem_cons.mpr ⟨lk_ald _ _, ?_⟩
  refine List.forall_mem_cons.mpr ⟨lk_if _ _ _, ?_⟩
  refine List.forall_mem_cons.mpr ⟨lk_goto _, ?_⟩
  refine List.forall_mem_cons.mpr ⟨lk_aload _ _, ?_⟩
  refine List.forall_mem_cons.mpr ⟨lk_iload _ _, ?_⟩
  refine List.forall_mem_cons.mpr ⟨lk_const _ _, ?_⟩
  refine List.forall_mem_cons.mpr ⟨trivial, ?_⟩
  refine List.forall_mem_cons.mpr ⟨lk_istore _ _, ?_⟩
  refine List.forall_mem_cons.mpr ⟨lk_aload _ _, ?_⟩
  refine List.forall_mem_cons.mpr ⟨lk_iload _ _, ?_⟩
  refine List.forall_mem_cons.mpr ⟨lk_const _ _, ?_⟩
  refine List.forall_mem_cons.mpr ⟨trivial, ?_⟩
  refine List.forall_mem_cons.mpr ⟨lk_istore _ _, ?_⟩
  refine List.forall_mem_cons.mpr ⟨lk_iload _ _, ?_⟩
  refine List.forall_mem_cons.mpr ⟨lk_const _ _, ?_⟩
  refine List.forall_mem_cons.mpr ⟨lk_icmp _ _ _, ?_⟩
  refine List.forall_mem_cons.mpr ⟨lk_aload _ _, ?_⟩
  refine List.forall_mem_cons.mpr ⟨lk_getf _ _ _, ?_⟩
  refine List.forall_mem_cons.mpr ⟨lk_iload _ _, ?_⟩
  refine List.forall_mem_cons.mpr ⟨lk_ald _ _, ?_⟩
  refine List.forall_mem_cons.mpr ⟨lk_if _ _ _, ?_⟩
  refine List.forall_mem_cons.mpr ⟨lk_iload _ _, ?_⟩
  refine List.forall_mem_cons.mpr ⟨lk_const _ _, ?_⟩
  refine List.forall_mem_cons.mpr ⟨lk_icmp _ _ _, ?_⟩
  refine List.forall_mem_cons.mpr ⟨lk_aload _ _, ?_⟩
  refine List.forall_mem_cons.mpr ⟨lk_getf _ _ _, ?_⟩
  refine List.forall_mem_cons.mpr ⟨lk_iload _ _, ?_⟩
  refine List.forall_mem_cons.mpr ⟨lk_ald _ _, ?_⟩
  refine List.forall_mem_cons.mpr ⟨lk_if _ _ _, ?_⟩
  refine List.forall_mem_cons.mpr ⟨lk_aload _ _, ?_⟩
  refine List.forall_mem_cons.mpr ⟨lk_getf _ _ _, ?_⟩
  refine List.forall_mem_cons.mpr ⟨lk_iload _ _, ?_⟩
  refine List.forall_mem_cons.mpr ⟨lk_const _ _, ?_⟩
  refine List.forall_mem_cons.mpr ⟨lk_ast _ _, ?_⟩
  refine List.forall_mem_cons.mpr ⟨lk_iinc _ _ _, ?_⟩
  refine List.forall_mem_cons.mpr ⟨lk_const _ _, ?_⟩
  refine List.forall_mem_cons.mpr ⟨lk_istore _ _, ?_⟩
  refine List.forall_mem_cons.mpr ⟨lk_iinc _ _ _, ?_⟩
  refine List.forall_mem_cons.mpr ⟨lk_goto _, ?_⟩
  refine List.forall_mem_cons.mpr ⟨lk_goto _, ?_⟩
  refine List.forall_mem_cons.mpr ⟨lk_iload _ _, ?_⟩
  refine List.forall_mem_cons.mpr ⟨lk_if _ _ _, ?_⟩
  refine List.forall_mem_cons.mpr ⟨lk_const _ _, ?_⟩
  refine List.forall_mem_cons.mpr ⟨lk_goto _, ?_⟩
  refine List.forall_mem_cons.mpr ⟨lk_const _ _, ?_⟩
  refine List.forall_mem_cons.mpr ⟨trivial, ?_⟩
  exact fun _ h => absurd h List.not_mem_nil
theorem lk_129 : ∀ pc en, mx_M 129 pc = some en → lk_E en := fun pc en h => lm_129 _ (mx_find_mem mt_129 pc en h)
theorem lm_139 : ∀ q ∈ mt_139, lk_E q.2 := by
  refine List.forall_mem_cons.mpr ⟨lk_aload _ _, ?_⟩
  refine List.forall_mem_cons.mpr ⟨lk_const _ _, ?_⟩
  refine List.forall_mem_cons.mpr ⟨lk_putf _ _ _ _, ?_⟩
  refine List.forall_mem_cons.mpr ⟨lk_iload _ _, ?_⟩
  refine List.forall_mem_cons.mpr ⟨lk_const _ _, ?_⟩
  refine List.forall_mem_cons.mpr ⟨lk_const _ _, ?_⟩
  refine List.forall_mem_cons.mpr ⟨trivial, ?_⟩
  refine List.forall_mem_cons.mpr ⟨lk_if _ _ _, ?_⟩
  refine List.forall_mem_cons.mpr ⟨lk_aload _ _, ?_⟩
  refine List.forall_mem_cons.mpr ⟨trivial, ?_⟩
  refine List.forall_mem_cons.mpr ⟨lk_if _ _ _, ?_⟩
  refine List.forall_mem_cons.mpr ⟨lk_const _ _, ?_⟩
  refine List.forall_mem_cons.mpr ⟨trivial, ?_⟩
  refine List.forall_mem_cons.mpr ⟨lk_aload _ _, ?_⟩
  refine List.forall_mem_cons.mpr ⟨lk_const _ _, ?_⟩
  refine List.forall_mem_cons.mpr ⟨lk_putf _ _ _ _, ?_⟩
  refine List.forall_mem_cons.mpr ⟨lk_aload _ _, ?_⟩
  refine List.forall_mem_cons.mpr ⟨lk_iload _ _, ?_⟩
  refine List.forall_mem_cons.mpr ⟨lk_putf _ _ _ _, ?_⟩
  refine List.forall_mem_cons.mpr ⟨lk_aload _ _, ?_⟩
  refine List.forall_mem_cons.mpr ⟨lk_const _ _, ?_⟩
  refine List.forall_mem_cons.mpr ⟨lk_putf _ _ _ _, ?_⟩
  refine List.forall_mem_cons.mpr ⟨lk_const _ _, ?_⟩
  refine List.forall_mem_cons.mpr ⟨lk_istore _ _, ?_⟩
  refine List.forall_mem_cons.mpr ⟨lk_aload _ _, ?_⟩
  refine List.forall_mem_cons.mpr ⟨lk_getf _ _ _, ?_⟩
  refine List.forall_mem_cons.mpr ⟨lk_iload _ _, ?_⟩
  refine List.forall_mem_cons.mpr ⟨lk_ald _ _, ?_⟩
  refine List.forall_mem_cons.mpr ⟨lk_istore _ _, ?_⟩
  refine List.forall_mem_cons.mpr ⟨lk_iload _ _, ?_⟩
  refine List.forall_mem_cons.mpr ⟨lk_const _ _, ?_⟩
  refine List.forall_mem_cons.mpr ⟨lk_icmp _ _ _, ?_⟩
  refine List.forall_mem_cons.mpr ⟨lk_aload _ _, ?_⟩
  refine List.forall_mem_cons.mpr ⟨lk_aload _ _, ?_⟩
  refine List.forall_mem_cons.mpr ⟨trivial, ?_⟩
  refine List.forall_mem_cons.mpr ⟨lk_putf _ _ _ _, ?_⟩
  refine List.forall_mem_cons.mpr ⟨lk_const _ _, ?_⟩
  refine List.forall_mem_cons.mpr ⟨trivial, ?_⟩
  refine List.forall_mem_cons.mpr ⟨lk_iload _ _, ?_⟩
  refine List.forall_mem_cons.mpr ⟨lk_const _ _, ?_⟩
  refine List.forall_mem_cons.mpr ⟨lk_icmp _ _ _, ?_⟩
  refine List.forall_mem_cons.mpr ⟨lk_const _ _, ?_⟩
  refine List.forall_mem_cons.mpr ⟨trivial, ?_⟩
  refine List.forall_mem_cons.mpr ⟨lk_iload _ _, ?_⟩
  refine List.forall_mem_cons.mpr ⟨lk_const _ _, ?_⟩
  refine List.forall_mem_cons.mpr ⟨lk_icmp _ _ _, ?_⟩
  refine List.forall_mem_cons.mpr ⟨lk_aload _ _, ?_⟩
  refine List.forall_mem_cons.mpr ⟨lk_getf _ _ _, ?_⟩
  refine List.forall_mem_cons.mpr ⟨lk_if _ _ _, ?_⟩
  refine List.forall_mem_cons.mpr ⟨lk_const _ _, ?_⟩
  refine List.forall_mem_cons.mpr ⟨trivial, ?_⟩
  refine List.forall_mem_cons.mpr ⟨lk_aload _ _, ?_⟩
  refine List.forall_mem_cons.mpr ⟨lk_dup _, ?_⟩
  refine List.forall_mem_cons.mpr ⟨lk_getf _ _ _, ?_⟩
  refine List.forall_mem_cons.mpr ⟨lk_iload _ _, ?_⟩
  refine List.forall_mem_cons.mpr ⟨lk_const _ _, ?_⟩
  refine List.forall_mem_cons.mpr ⟨lk_icmp _ _ _, ?_⟩
  refine List.forall_mem_cons.mpr ⟨lk_const _ _, ?_⟩
  refine List.forall_mem_cons.mpr ⟨lk_goto _, ?_⟩
  refine List.forall_mem_cons.mpr ⟨lk_const _ _, ?_⟩
  refine List.forall_mem_cons.mpr ⟨lk_bin _ _, ?_⟩
  refine List.forall_mem_cons.mpr ⟨lk_putf _ _ _ _, ?_⟩
  refine List.forall_mem_cons.mpr ⟨lk_aload _ _, ?_⟩
  refine List.forall_mem_cons.mpr ⟨lk_iload _ _, ?_⟩
  refine List.forall_mem_cons.mpr ⟨lk_aload _ _, ?_⟩
  refine List.forall_mem_cons.mpr ⟨lk_getf _ _ _, ?_⟩
  refine List.forall_mem_cons.mpr ⟨lk_iload _ _, ?_⟩
  refine List.forall_mem_cons.mpr ⟨lk_ald _ _, ?_⟩
  refine List.forall_mem_cons.mpr ⟨trivial, ?_⟩
  refine List.forall_mem_cons.mpr ⟨lk_istore _ _, ?_⟩
  refine List.forall_mem_cons.mpr ⟨lk_iload _ _, ?_⟩
  refine List.forall_mem_cons.mpr ⟨lk_if _ _ _, ?_⟩
  refine List.forall_mem_cons.mpr ⟨lk_iload _ _, ?_⟩
  refine List.forall_mem_cons.mpr ⟨trivial, ?_⟩
  refine List.forall_mem_cons.mpr ⟨lk_aload _ _, ?_⟩
  refine List.forall_mem_cons.mpr ⟨lk_iload _ _, ?_⟩
  refine List.forall_mem_cons.mpr ⟨trivial, ?_⟩
  refine List.forall_mem_cons.mpr ⟨lk_istore _ _, ?_⟩
  refine List.forall_mem_cons.mpr ⟨lk_goto _, ?_⟩
  exact fun _ h => absurd h List.not_mem_nil
theorem lk_139 : ∀ pc en, mx_M 139 pc = some en → lk_E en := fun pc en h => lm_139 _ (mx_find_mem mt_139 pc en h)
