set_option maxRecDepth 20000 in
theorem ok_94 : ∀ q ∈ mt_94, mx_ok mx_I0 i_94 q.1 q.2 := by
  refine List.forall_mem_cons.mpr ⟨sn_iload_n (k := 1) (by decide +kernel), ?_⟩
  refine List.forall_mem_cons.mpr ⟨sn_istore_n (k := 3) (by decide +kernel) (by decide), ?_⟩
  refine List.forall_mem_cons.mpr ⟨sn_iload_n (k := 3) (by decide +kernel), ?_⟩
  refine List.forall_mem_cons.mpr ⟨sn_iload_n (k := 2) (by decide +kernel), ?_⟩
  refine List.forall_mem_cons.mpr ⟨sn_icmp_ge (off := 70) (by decide +kernel) (by decide), ?_⟩
  refine List.forall_mem_cons.mpr ⟨sn_aload_n (k := 0) (by decide +kernel), ?_⟩
  refine List.forall_mem_cons.mpr ⟨sn_getf (by decide +kernel) rfl tbX8 (by decide) tw_181, ?_⟩
  refine List.forall_mem_cons.mpr ⟨sn_iload_n (k := 3) (by decide +kernel), ?_⟩
  refine List.forall_mem_cons.mpr ⟨⟨i_3, rfl, mk_callV (by decide) (by decide) cv_3 (Or.inl tw_577) rfl (by decide +kernel)⟩, ?_⟩
  refine List.forall_mem_cons.mpr ⟨sn_if_ne (off := 6) (by decide +kernel) (by decide), ?_⟩
  refine List.forall_mem_cons.mpr ⟨sn_goto (off := 50) (by decide +kernel) (by decide), ?_⟩
  refine List.forall_mem_cons.mpr ⟨sn_aload_n (k := 0) (by decide +kernel), ?_⟩
  refine List.forall_mem_cons.mpr ⟨sn_getf (by decide +kernel) rfl tbX8 (by decide) tw_184, ?_⟩
  refine List.forall_mem_cons.mpr ⟨sn_iload_n (k := 3) (by decide +kernel), ?_⟩
  refine List.forall_mem_cons.mpr ⟨sn_icmp_ne (off := 17) (by decide +kernel) (by decide), ?_⟩
  refine List.forall_mem_cons.mpr ⟨sn_aload_n (k := 0) (by decide +kernel), ?_⟩
  refine List.forall_mem_cons.mpr ⟨sn_iconst (k := 5) (by decide +kernel) (by decide), ?_⟩
  refine List.forall_mem_cons.mpr ⟨sn_iload_n (k := 3) (by decide +kernel), ?_⟩
  refine List.forall_mem_cons.mpr ⟨⟨i_88, rfl, mk_callV (by decide) (by decide) cv_88 (Or.inl tw_582) rfl (by decide +kernel)⟩, ?_⟩
  refine List.forall_mem_cons.mpr ⟨sn_aload_n (k := 0) (by decide +kernel), ?_⟩
  refine List.forall_mem_cons.mpr ⟨sn_iconst (k := (-1)) (by decide +kernel) (by decide), ?_⟩
  refine List.forall_mem_cons.mpr ⟨sn_putf tyX8 (by decide +kernel) rfl tbX8 tyX8_ok nmX8 (by decide) tw_184 (Or.inl rfl) rfl, ?_⟩
  refine List.forall_mem_cons.mpr ⟨sn_goto (off := 19) (by decide +kernel) (by decide), ?_⟩
  refine List.forall_mem_cons.mpr ⟨sn_aload_n (k := 0) (by decide +kernel), ?_⟩
  refine List.forall_mem_cons.mpr ⟨sn_iload_n (k := 3) (by decide +kernel), ?_⟩
  refine List.forall_mem_cons.mpr ⟨⟨i_93, rfl, mk_callV (by decide) (by decide) cv_93 (Or.inl tw_588) rfl (by decide +kernel)⟩, ?_⟩
  refine List.forall_mem_cons.mpr ⟨sn_aload_n (k := 0) (by decide +kernel), ?_⟩
  refine List.forall_mem_cons.mpr ⟨sn_iconst (k := 4) (by decide +kernel) (by decide), ?_⟩
  refine List.forall_mem_cons.mpr ⟨sn_iload_n (k := 3) (by decide +kernel), ?_⟩
  refine List.forall_mem_cons.mpr ⟨⟨i_88, rfl, mk_callV (by decide) (by decide) cv_88 (Or.inl tw_582) rfl (by decide +kernel)⟩, ?_⟩
  refine List.forall_mem_cons.mpr ⟨sn_aload_n (k := 0) (by decide +kernel), ?_⟩
  refine List.forall_mem_cons.mpr ⟨sn_iconst (k := (-1)) (by decide +kernel) (by decide), ?_⟩
  refine List.forall_mem_cons.mpr ⟨sn_putf tyX8 (by decide +kernel) rfl tbX8 tyX8_ok nmX8 (by decide) tw_183 (Or.inl rfl) rfl, ?_⟩
  refine List.forall_mem_cons.mpr ⟨sn_aload_n (k := 0) (by decide +kernel), ?_⟩
  refine List.forall_mem_cons.mpr ⟨sn_getf (by decide +kernel) rfl tbX8 (by decide) tw_181, ?_⟩
  refine List.forall_mem_cons.mpr ⟨sn_iload_n (k := 3) (by decide +kernel), ?_⟩
  refine List.forall_mem_cons.mpr ⟨sn_iconst (k := 0) (by decide +kernel) (by decide), ?_⟩
  refine List.forall_mem_cons.mpr ⟨⟨i_4, rfl, mk_callV (by decide) (by decide) cv_4 (Or.inl tw_592) rfl (by decide +kernel)⟩, ?_⟩
  refine List.forall_mem_cons.mpr ⟨sn_iinc (d := 1) (by decide +kernel) (by decide) (by decide), ?_⟩
  refine List.forall_mem_cons.mpr ⟨sn_goto (off := (-69)) (by decide +kernel) (by decide), ?_⟩
  refine List.forall_mem_cons.mpr ⟨⟨rfl, (by decide +kernel : decode prog_10_method_9_code 74 = .ok (.return_, 1))⟩, ?_⟩
  exact fun _ h => absurd h List.not_mem_nil
set_option maxRecDepth 20000 in
theorem ok_95 : ∀ q ∈ mt_95, mx_ok mx_I0 i_95 q.1 q.2 := by
  refine List.forall_mem_cons.mpr ⟨sn_aload_n (k := 0) (by decide +kernel), ?_⟩
  refine List.forall_mem_cons.mpr ⟨sn_getf (by decide +kernel) rfl tbX8 (by decide) tw_181, ?_⟩
  refine List.forall_mem_cons.mpr ⟨⟨i_2, rfl, mk_callV (by decide) (by decide) cv_2 (Or.inl tw_576) rfl (by decide +kernel)⟩, ?_⟩
  refine List.forall_mem_cons.mpr ⟨sn_iconst (k := 1) (by decide +kernel) (by decide), ?_⟩
  refine List.forall_mem_cons.mpr ⟨sn_isub (by decide +kernel), ?_⟩
  refine List.forall_mem_cons.mpr ⟨sn_istore_n (k := 2) (by decide +kernel) (by decide), ?_⟩
  refine List.forall_mem_cons.mpr ⟨sn_iload_n (k := 2) (by decide +kernel), ?_⟩
  refine List.forall_mem_cons.mpr ⟨sn_iconst (k := 1) (by decide +kernel) (by decide), ?_⟩
  refine List.forall_mem_cons.mpr ⟨sn_isub (by decide +kernel), ?_⟩
  refine List.forall_mem_cons.mpr ⟨sn_istore_n (k := 3) (by decide +kernel) (by decide), ?_⟩
  refine List.forall_mem_cons.mpr ⟨sn_aload_n (k := 0) (by decide +kernel), ?_⟩
  refine List.forall_mem_cons.mpr ⟨sn_getf (by decide +kernel) rfl tbX8 (by decide) tw_183, ?_⟩
  refine List.forall_mem_cons.mpr ⟨sn_iload_n (k := 2) (by decide +kernel), ?_⟩
  refine List.forall_mem_cons.mpr ⟨sn_icmp_ne (off := 13) (by decide +kernel) (by decide), ?_⟩
  refine List.forall_mem_cons.mpr ⟨sn_aload_n (k := 0) (by decide +kernel), ?_⟩
  refine List.forall_mem_cons.mpr ⟨sn_getf (by decide +kernel) rfl tbX8 (by decide) tw_184, ?_⟩
  refine List.forall_mem_cons.mpr ⟨sn_iload_n (k := 3) (by decide +kernel), ?_⟩
  refine List.forall_mem_cons.mpr ⟨sn_icmp_ne (off := 5) (by decide +kernel) (by decide), ?_⟩
  refine List.forall_mem_cons.mpr ⟨sn_iconst (k := 0) (by decide +kernel) (by decide), ?_⟩
  refine List.forall_mem_cons.mpr ⟨⟨rfl, (by decide +kernel : decode prog_10_method_10_code 31 = .ok (.ireturn, 1))⟩, ?_⟩
  refine List.forall_mem_cons.mpr ⟨sn_aload_n (k := 0) (by decide +kernel), ?_⟩
  refine List.forall_mem_cons.mpr ⟨sn_getf (by decide +kernel) rfl tbX8 (by decide) tw_183, ?_⟩
  refine List.forall_mem_cons.mpr ⟨sn_iload_n (k := 2) (by decide +kernel), ?_⟩
  refine List.forall_mem_cons.mpr ⟨sn_icmp_eq (off := 23) (by decide +kernel) (by decide), ?_⟩
  refine List.forall_mem_cons.mpr ⟨sn_aload_n (k := 0) (by decide +kernel), ?_⟩
  refine List.forall_mem_cons.mpr ⟨sn_getf (by decide +kernel) rfl tbX8 (by decide) tw_184, ?_⟩
  refine List.forall_mem_cons.mpr ⟨sn_iload_n (k := 2) (by decide +kernel), ?_⟩
  refine List.forall_mem_cons.mpr ⟨sn_icmp_eq (off := 15) (by decide +kernel) (by decide), ?_⟩
  refine List.forall_mem_cons.mpr ⟨sn_aload_n (k := 0) (by decide +kernel), ?_⟩
  refine List.forall_mem_cons.mpr ⟨sn_iload_n (k := 3) (by decide +kernel), ?_⟩
  refine List.forall_mem_cons.mpr ⟨⟨i_93, rfl, mk_callV (by decide) (by decide) cv_93 (Or.inl tw_588) rfl (by decide +kernel)⟩, ?_⟩
  refine List.forall_mem_cons.mpr ⟨sn_aload_n (k := 0) (by decide +kernel), ?_⟩
  refine List.forall_mem_cons.mpr ⟨sn_iload_n (k := 2) (by decide +kernel), ?_⟩
  refine List.forall_mem_cons.mpr ⟨⟨i_93, rfl, mk_callV (by decide) (by decide) cv_93 (Or.inl tw_588) rfl (by decide +kernel)⟩, ?_⟩
  refine List.forall_mem_cons.mpr ⟨sn_iconst (k := 0) (by decide +kernel) (by decide), ?_⟩
  refine List.forall_mem_cons.mpr ⟨⟨rfl, (by decide +kernel : decode prog_10_method_10_code 59 = .ok (.ireturn, 1))⟩, ?_⟩
  refine List.forall_mem_cons.mpr ⟨sn_aload_n (k := 0) (by decide +kernel), ?_⟩
  refine List.forall_mem_cons.mpr ⟨sn_getf (by decide +kernel) rfl tbX8 (by decide) tw_183, ?_⟩
  refine List.forall_mem_cons.mpr ⟨sn_iload_n (k := 3) (by decide +kernel), ?_⟩
  refine List.forall_mem_cons.mpr ⟨sn_icmp_eq (off := 13) (by decide +kernel) (by decide), ?_⟩
  refine List.forall_mem_cons.mpr ⟨sn_aload_n (k := 0) (by decide +kernel), ?_⟩
  refine List.forall_mem_cons.mpr ⟨sn_iload_n (k := 2) (by decide +kernel), ?_⟩
  refine List.forall_mem_cons.mpr ⟨⟨i_93, rfl, mk_callV (by decide) (by decide) cv_93 (Or.inl tw_588) rfl (by decide +kernel)⟩, ?_⟩
  refine List.forall_mem_cons.mpr ⟨sn_aload_n (k := 0) (by decide +kernel), ?_⟩
  refine List.forall_mem_cons.mpr ⟨sn_iload_n (k := 3) (by decide +kernel), ?_⟩
  refine List.forall_mem_cons.mpr ⟨⟨i_93, rfl, mk_callV (by decide) (by decide) cv_93 (Or.inl tw_588) rfl (by decide +kernel)⟩, ?_⟩
  refine List.forall_mem_cons.mpr ⟨sn_iload_n (k := 1) (by decide +kernel), ?_⟩
  refine List.forall_mem_cons.mpr ⟨sn_if_ne (off := 8) (by decide +kernel) (by decide), ?_⟩
  refine List.forall_mem_cons.mpr ⟨sn_aload_n (k := 0) (by decide +kernel), ?_⟩
  refine List.forall_mem_cons.mpr ⟨sn_iload_n (k := 2) (by decide +kernel), ?_⟩
  refine List.forall_mem_cons.mpr ⟨⟨i_93, rfl, mk_callV (by decide) (by decide) cv_93 (Or.inl tw_588) rfl (by decide +kernel)⟩, ?_⟩
  refine List.forall_mem_cons.mpr ⟨sn_iload_n (k := 1) (by decide +kernel), ?_⟩
  refine List.forall_mem_cons.mpr ⟨⟨rfl, (by decide +kernel : decode prog_10_method_10_code 88 = .ok (.ireturn, 1))⟩, ?_⟩
  exact fun _ h => absurd h List.not_mem_nil
set_option maxRecDepth 20000 in
theorem ok_96 : ∀ q ∈ mt_96, mx_ok mx_I0 i_96 q.1 q.2 := by
  refine List.forall_mem_cons.mpr ⟨sn_aload_n (k := 0) (by decide +kernel), ?_⟩
  refine List.forall_mem_cons.mpr ⟨sn_aload_n (k := 0) (by decide +kernel), ?_⟩
  refine List.forall_mem_cons.mpr ⟨sn_getf (by decide +kernel) rfl tbX8 (by decide) tw_181, ?_⟩
  refine List.forall_mem_cons.mpr ⟨⟨i_2, rfl, mk_callV (by decide) (by decide) cv_2 (Or.inl tw_576) rfl (by decide +kernel)⟩, ?_⟩
  refine List.forall_mem_cons.mpr ⟨sn_iconst (k := 1) (by decide +kernel) (by decide), ?_⟩
  refine List.forall_mem_cons.mpr ⟨sn_isub (by decide +kernel), ?_⟩
  refine List.forall_mem_cons.mpr ⟨⟨i_93, rfl, mk_callV (by decide) (by decide) cv_93 (Or.inl tw_588) rfl (by decide +kernel)⟩, ?_⟩
  refine List.forall_mem_cons.mpr ⟨sn_aload_n (k := 0) (by decide +kernel), ?_⟩
  refine List.forall_mem_cons.mpr ⟨sn_iload_n (k := 1) (by decide +kernel), ?_⟩
  refine List.forall_mem_cons.mpr ⟨sn_iconst (k := 0) (by decide +kernel) (by decide), ?_⟩
  refine List.forall_mem_cons.mpr ⟨⟨i_88, rfl, mk_callV (by decide) (by decide) cv_88 (Or.inl tw_582) rfl (by decide +kernel)⟩, ?_⟩
  refine List.forall_mem_cons.mpr ⟨⟨rfl, (by decide +kernel : decode prog_10_method_11_code 19 = .ok (.return_, 1))⟩, ?_⟩
  exact fun _ h => absurd h List.not_mem_nil
set_option maxRecDepth 20000 in
theorem ok_97 : ∀ q ∈ mt_97, mx_ok mx_I0 i_97 q.1 q.2 := by
  refine List.forall_mem_cons.mpr ⟨sn_aload_n (k := 0) (by decide +kernel), ?_⟩
  refine List.forall_mem_cons.mpr ⟨sn_iconst (k := 1) (by decide +kernel) (by decide), ?_⟩
  refine List.forall_mem_cons.mpr ⟨⟨i_95, rfl, mk_callV (by decide) (by decide) cv_95 (Or.inl tw_601) rfl (by decide +kernel)⟩, ?_⟩
  refine List.forall_mem_cons.mpr ⟨sn_if_eq (off := 16) (by decide +kernel) (by decide), ?_⟩
  refine List.forall_mem_cons.mpr ⟨sn_aload_n (k := 0) (by decide +kernel), ?_⟩
  refine List.forall_mem_cons.mpr ⟨sn_bipush (k := 13) (by decide +kernel) (by decide), ?_⟩
  refine List.forall_mem_cons.mpr ⟨sn_iload_n (k := 1) (by decide +kernel), ?_⟩
  refine List.forall_mem_cons.mpr ⟨⟨i_16, rfl, mk_callS (by decide) (by decide) cs_16 (Or.inl tw_617) (by decide +kernel)⟩, ?_⟩
  refine List.forall_mem_cons.mpr ⟨⟨i_88, rfl, mk_callV (by decide) (by decide) cv_88 (Or.inl tw_582) rfl (by decide +kernel)⟩, ?_⟩
  refine List.forall_mem_cons.mpr ⟨sn_goto (off := 10) (by decide +kernel) (by decide), ?_⟩
  refine List.forall_mem_cons.mpr ⟨sn_aload_n (k := 0) (by decide +kernel), ?_⟩
  refine List.forall_mem_cons.mpr ⟨sn_bipush (k := 14) (by decide +kernel) (by decide), ?_⟩
  refine List.forall_mem_cons.mpr ⟨sn_iload_n (k := 1) (by decide +kernel), ?_⟩
  refine List.forall_mem_cons.mpr ⟨⟨i_88, rfl, mk_callV (by decide) (by decide) cv_88 (Or.inl tw_582) rfl (by decide +kernel)⟩, ?_⟩
  refine List.forall_mem_cons.mpr ⟨sn_aload_n (k := 0) (by decide +kernel), ?_⟩
  refine List.forall_mem_cons.mpr ⟨sn_aload_n (k := 0) (by decide +kernel), ?_⟩
  refine List.forall_mem_cons.mpr ⟨sn_getf (by decide +kernel) rfl tbX8 (by decide) tw_181, ?_⟩
  refine List.forall_mem_cons.mpr ⟨⟨i_2, rfl, mk_callV (by decide) (by decide) cv_2 (Or.inl tw_576) rfl (by decide +kernel)⟩, ?_⟩
  refine List.forall_mem_cons.mpr ⟨sn_iconst (k := 1) (by decide +kernel) (by decide), ?_⟩
  refine List.forall_mem_cons.mpr ⟨sn_isub (by decide +kernel), ?_⟩
  refine List.forall_mem_cons.mpr ⟨sn_putf tyX8 (by decide +kernel) rfl tbX8 tyX8_ok nmX8 (by decide) tw_183 (Or.inl rfl) rfl, ?_⟩
  refine List.forall_mem_cons.mpr ⟨sn_aload_n (k := 0) (by decide +kernel), ?_⟩
  refine List.forall_mem_cons.mpr ⟨sn_aload_n (k := 0) (by decide +kernel), ?_⟩
  refine List.forall_mem_cons.mpr ⟨sn_getf (by decide +kernel) rfl tbX8 (by decide) tw_183, ?_⟩
  refine List.forall_mem_cons.mpr ⟨sn_iconst (k := 1) (by decide +kernel) (by decide), ?_⟩
  refine List.forall_mem_cons.mpr ⟨sn_isub (by decide +kernel), ?_⟩
  refine List.forall_mem_cons.mpr ⟨sn_putf tyX8 (by decide +kernel) rfl tbX8 tyX8_ok nmX8 (by decide) tw_184 (Or.inl rfl) rfl, ?_⟩
  refine List.forall_mem_cons.mpr ⟨⟨rfl, (by decide +kernel : decode prog_10_method_12_code 51 = .ok (.return_, 1))⟩, ?_⟩
  exact fun _ h => absurd h List.not_mem_nil
set_option maxRecDepth 20000 in
theorem ok_98 : ∀ q ∈ mt_98, mx_ok mx_I0 i_98 q.1 q.2 := by
  refine List.forall_mem_cons.mpr ⟨sn_aload_n (k := 0) (by decide +kernel), ?_⟩
  refine List.forall_mem_cons.mpr ⟨sn_getf (by decide +kernel) rfl tbX8 (by decide) tw_181, ?_⟩
  refine List.forall_mem_cons.mpr ⟨⟨i_2, rfl, mk_callV (by decide) (by decide) cv_2 (Or.inl tw_576) rfl (by decide +kernel)⟩, ?_⟩
  refine List.forall_mem_cons.mpr ⟨sn_iconst (k := 1) (by decide +kernel) (by decide), ?_⟩
  refine List.forall_mem_cons.mpr ⟨sn_isub (by decide +kernel), ?_⟩
  refine List.forall_mem_cons.mpr ⟨sn_istore_n (k := 2) (by decide +kernel) (by decide), ?_⟩
  refine List.forall_mem_cons.mpr ⟨sn_iconst (k := 0) (by decide +kernel) (by decide), ?_⟩
  refine List.forall_mem_cons.mpr ⟨sn_istore_n (k := 3) (by decide +kernel) (by decide), ?_⟩
  refine List.forall_mem_cons.mpr ⟨sn_iload_n (k := 3) (by decide +kernel), ?_⟩
  refine List.forall_mem_cons.mpr ⟨sn_iload_n (k := 2) (by decide +kernel), ?_⟩
  refine List.forall_mem_cons.mpr ⟨sn_icmp_ge (off := 41) (by decide +kernel) (by decide), ?_⟩
  refine List.forall_mem_cons.mpr ⟨sn_aload_n (k := 0) (by decide +kernel), ?_⟩
  refine List.forall_mem_cons.mpr ⟨sn_getf (by decide +kernel) rfl tbX8 (by decide) tw_181, ?_⟩
  refine List.forall_mem_cons.mpr ⟨sn_iload_n (k := 3) (by decide +kernel), ?_⟩
  refine List.forall_mem_cons.mpr ⟨⟨i_3, rfl, mk_callV (by decide) (by decide) cv_3 (Or.inl tw_577) rfl (by decide +kernel)⟩, ?_⟩
  refine List.forall_mem_cons.mpr ⟨sn_iconst (k := 3) (by decide +kernel) (by decide), ?_⟩
  refine List.forall_mem_cons.mpr ⟨sn_icmp_ne (off := 23) (by decide +kernel) (by decide), ?_⟩
  refine List.forall_mem_cons.mpr ⟨sn_aload_n (k := 0) (by decide +kernel), ?_⟩
  refine List.forall_mem_cons.mpr ⟨sn_getf (by decide +kernel) rfl tbX8 (by decide) tw_182, ?_⟩
  refine List.forall_mem_cons.mpr ⟨sn_iload_n (k := 3) (by decide +kernel), ?_⟩
  refine List.forall_mem_cons.mpr ⟨⟨i_3, rfl, mk_callV (by decide) (by decide) cv_3 (Or.inl tw_577) rfl (by decide +kernel)⟩, ?_⟩
  refine List.forall_mem_cons.mpr ⟨sn_iload_n (k := 1) (by decide +kernel), ?_⟩
  refine List.forall_mem_cons.mpr ⟨sn_icmp_ne (off := 11) (by decide +kernel) (by decide), ?_⟩
  refine List.forall_mem_cons.mpr ⟨sn_aload_n (k := 0) (by decide +kernel), ?_⟩
  refine List.forall_mem_cons.mpr ⟨sn_iload_n (k := 3) (by decide +kernel), ?_⟩
  refine List.forall_mem_cons.mpr ⟨sn_iload_n (k := 3) (by decide +kernel), ?_⟩
  refine List.forall_mem_cons.mpr ⟨sn_iconst (k := 1) (by decide +kernel) (by decide), ?_⟩
  refine List.forall_mem_cons.mpr ⟨sn_iadd (by decide +kernel), ?_⟩
  refine List.forall_mem_cons.mpr ⟨⟨i_94, rfl, mk_callV (by decide) (by decide) cv_94 (Or.inl tw_578) rfl (by decide +kernel)⟩, ?_⟩
  refine List.forall_mem_cons.mpr ⟨sn_iinc (d := 1) (by decide +kernel) (by decide) (by decide), ?_⟩
  refine List.forall_mem_cons.mpr ⟨sn_goto (off := (-40)) (by decide +kernel) (by decide), ?_⟩
  refine List.forall_mem_cons.mpr ⟨sn_aload_n (k := 0) (by decide +kernel), ?_⟩
  refine List.forall_mem_cons.mpr ⟨sn_iload_n (k := 2) (by decide +kernel), ?_⟩
  refine List.forall_mem_cons.mpr ⟨⟨i_93, rfl, mk_callV (by decide) (by decide) cv_93 (Or.inl tw_588) rfl (by decide +kernel)⟩, ?_⟩
  refine List.forall_mem_cons.mpr ⟨sn_aload_n (k := 0) (by decide +kernel), ?_⟩
  refine List.forall_mem_cons.mpr ⟨sn_bipush (k := 7) (by decide +kernel) (by decide), ?_⟩
  refine List.forall_mem_cons.mpr ⟨sn_iload_n (k := 1) (by decide +kernel), ?_⟩
  refine List.forall_mem_cons.mpr ⟨⟨i_88, rfl, mk_callV (by decide) (by decide) cv_88 (Or.inl tw_582) rfl (by decide +kernel)⟩, ?_⟩
  refine List.forall_mem_cons.mpr ⟨sn_aload_n (k := 0) (by decide +kernel), ?_⟩
  refine List.forall_mem_cons.mpr ⟨sn_iconst (k := 1) (by decide +kernel) (by decide), ?_⟩
  refine List.forall_mem_cons.mpr ⟨⟨i_91, rfl, mk_callV (by decide) (by decide) cv_91 (Or.inl tw_593) rfl (by decide +kernel)⟩, ?_⟩
  refine List.forall_mem_cons.mpr ⟨⟨rfl, (by decide +kernel : decode prog_10_method_13_code 72 = .ok (.return_, 1))⟩, ?_⟩
  exact fun _ h => absurd h List.not_mem_nil
set_option maxRecDepth 20000 in
theorem ok_99 : ∀ q ∈ mt_99, mx_ok mx_I0 i_99 q.1 q.2 := by
  refine List.forall_mem_cons.mpr ⟨sn_aload_n (k := 0) (by decide +kernel), ?_⟩
  refine List.forall_mem_cons.mpr ⟨sn_getf (by decide +kernel) rfl tbX8 (by decide) tw_181, ?_⟩
  refine List.forall_mem_cons.mpr ⟨⟨i_2, rfl, mk_callV (by decide) (by decide) cv_2 (Or.inl tw_576) rfl (by decide +kernel)⟩, ?_⟩
  refine List.forall_mem_cons.mpr ⟨sn_iconst (k := 3) (by decide +kernel) (by decide), ?_⟩
  refine List.forall_mem_cons.mpr ⟨sn_isub (by decide +kernel), ?_⟩
  refine List.forall_mem_cons.mpr ⟨sn_istore_n (k := 1) (by decide +kernel) (by decide), ?_⟩
  refine List.forall_mem_cons.mpr ⟨sn_aload_n (k := 0) (by decide +kernel), ?_⟩
  refine List.forall_mem_cons.mpr ⟨sn_iload_n (k := 1) (by decide +kernel), ?_⟩
  refine List.forall_mem_cons.mpr ⟨sn_iload_n (k := 1) (by decide +kernel), ?_⟩
  refine List.forall_mem_cons.mpr ⟨sn_iconst (k := 1) (by decide +kernel) (by decide), ?_⟩
  refine List.forall_mem_cons.mpr ⟨sn_iadd (by decide +kernel), ?_⟩
  refine List.forall_mem_cons.mpr ⟨⟨i_94, rfl, mk_callV (by decide) (by decide) cv_94 (Or.inl tw_578) rfl (by decide +kernel)⟩, ?_⟩
  refine List.forall_mem_cons.mpr ⟨sn_aload_n (k := 0) (by decide +kernel), ?_⟩
  refine List.forall_mem_cons.mpr ⟨sn_iconst (k := 0) (by decide +kernel) (by decide), ?_⟩
  refine List.forall_mem_cons.mpr ⟨⟨i_95, rfl, mk_callV (by decide) (by decide) cv_95 (Or.inl tw_601) rfl (by decide +kernel)⟩, ?_⟩
  refine List.forall_mem_cons.mpr ⟨sn_pop (by decide +kernel), ?_⟩
  refine List.forall_mem_cons.mpr ⟨sn_aload_n (k := 0) (by decide +kernel), ?_⟩
  refine List.forall_mem_cons.mpr ⟨sn_bipush (k := 16) (by decide +kernel) (by decide), ?_⟩
  refine List.forall_mem_cons.mpr ⟨sn_iload_n (k := 1) (by decide +kernel), ?_⟩
  refine List.forall_mem_cons.mpr ⟨⟨i_88, rfl, mk_callV (by decide) (by decide) cv_88 (Or.inl tw_582) rfl (by decide +kernel)⟩, ?_⟩
  refine List.forall_mem_cons.mpr ⟨sn_aload_n (k := 0) (by decide +kernel), ?_⟩
  refine List.forall_mem_cons.mpr ⟨sn_iconst (k := 3) (by decide +kernel) (by decide), ?_⟩
  refine List.forall_mem_cons.mpr ⟨⟨i_91, rfl, mk_callV (by decide) (by decide) cv_91 (Or.inl tw_593) rfl (by decide +kernel)⟩, ?_⟩
  refine List.forall_mem_cons.mpr ⟨⟨rfl, (by decide +kernel : decode prog_10_method_14_code 36 = .ok (.return_, 1))⟩, ?_⟩
  exact fun _ h => absurd h List.not_mem_nil
set_option maxRecDepth 20000 in
theorem ok_100 : ∀ q ∈ mt_100, mx_ok mx_I0 i_100 q.1 q.2 := by
  refine List.forall_mem_cons.mpr ⟨sn_aload_n (k := 0) (by decide +kernel), ?_⟩
  refine List.forall_mem_cons.mpr ⟨sn_getf (by decide +kernel) rfl tbX8 (by decide) tw_181, ?_⟩
  refine List.forall_mem_cons.mpr ⟨⟨i_2, rfl, mk_callV (by decide) (by decide) cv_2 (Or.inl tw_576) rfl (by decide +kernel)⟩, ?_⟩
  refine List.forall_mem_cons.mpr ⟨sn_iconst (k := 1) (by decide +kernel) (by decide), ?_⟩
  refine List.forall_mem_cons.mpr ⟨sn_isub (by decide +kernel), ?_⟩
  refine List.forall_mem_cons.mpr ⟨sn_istore_n (k := 3) (by decide +kernel) (by decide), ?_⟩
  refine List.forall_mem_cons.mpr ⟨sn_aload_n (k := 0) (by decide +kernel), ?_⟩
  refine List.forall_mem_cons.mpr ⟨sn_iconst (k := 0) (by decide +kernel) (by decide), ?_⟩
  refine List.forall_mem_cons.mpr ⟨sn_iload_n (k := 3) (by decide +kernel), ?_⟩
  refine List.forall_mem_cons.mpr ⟨⟨i_94, rfl, mk_callV (by decide) (by decide) cv_94 (Or.inl tw_578) rfl (by decide +kernel)⟩, ?_⟩
  refine List.forall_mem_cons.mpr ⟨sn_aload_n (k := 0) (by decide +kernel), ?_⟩
  refine List.forall_mem_cons.mpr ⟨sn_iload_n (k := 3) (by decide +kernel), ?_⟩
  refine List.forall_mem_cons.mpr ⟨⟨i_93, rfl, mk_callV (by decide) (by decide) cv_93 (Or.inl tw_588) rfl (by decide +kernel)⟩, ?_⟩
  refine List.forall_mem_cons.mpr ⟨sn_aload_n (k := 0) (by decide +kernel), ?_⟩
  refine List.forall_mem_cons.mpr ⟨sn_iload_n (k := 1) (by decide +kernel), ?_⟩
  refine List.forall_mem_cons.mpr ⟨sn_iload_n (k := 2) (by decide +kernel), ?_⟩
  refine List.forall_mem_cons.mpr ⟨⟨i_88, rfl, mk_callV (by decide) (by decide) cv_88 (Or.inl tw_582) rfl (by decide +kernel)⟩, ?_⟩
  refine List.forall_mem_cons.mpr ⟨sn_aload_n (k := 0) (by decide +kernel), ?_⟩
  refine List.forall_mem_cons.mpr ⟨sn_iconst (k := 1) (by decide +kernel) (by decide), ?_⟩
  refine List.forall_mem_cons.mpr ⟨⟨i_91, rfl, mk_callV (by decide) (by decide) cv_91 (Or.inl tw_593) rfl (by decide +kernel)⟩, ?_⟩
  refine List.forall_mem_cons.mpr ⟨⟨rfl, (by decide +kernel : decode prog_10_method_15_code 32 = .ok (.return_, 1))⟩, ?_⟩
  exact fun _ h => absurd h List.not_mem_nil
set_option maxRecDepth 20000 in
theorem ok_101 : ∀ q ∈ mt_101, mx_ok mx_I0 i_101 q.1 q.2 := by
  refine List.forall_mem_cons.mpr ⟨sn_aload_n (k := 0) (by decide +kernel), ?_⟩
  refine List.forall_mem_cons.mpr ⟨sn_iconst (k := 0) (by decide +kernel) (by decide), ?_⟩
  refine List.forall_mem_cons.mpr ⟨sn_aload_n (k := 0) (by decide +kernel), ?_⟩
  refine List.forall_mem_cons.mpr ⟨sn_getf (by decide +kernel) rfl tbX8 (by decide) tw_181, ?_⟩
  refine List.forall_mem_cons.mpr ⟨⟨i_2, rfl, mk_callV (by decide) (by decide) cv_2 (Or.inl tw_576) rfl (by decide +kernel)⟩, ?_⟩
  refine List.forall_mem_cons.mpr ⟨sn_iconst (k := 2) (by decide +kernel) (by decide), ?_⟩
  refine List.forall_mem_cons.mpr ⟨sn_isub (by decide +kernel), ?_⟩
  refine List.forall_mem_cons.mpr ⟨⟨i_94, rfl, mk_callV (by decide) (by decide) cv_94 (Or.inl tw_578) rfl (by decide +kernel)⟩, ?_⟩
  refine List.forall_mem_cons.mpr ⟨sn_aload_n (k := 0) (by decide +kernel), ?_⟩
  refine List.forall_mem_cons.mpr ⟨sn_iconst (k := 1) (by decide +kernel) (by decide), ?_⟩
  refine List.forall_mem_cons.mpr ⟨⟨i_95, rfl, mk_callV (by decide) (by decide) cv_95 (Or.inl tw_601) rfl (by decide +kernel)⟩, ?_⟩
  refine List.forall_mem_cons.mpr ⟨sn_if_eq (off := 10) (by decide +kernel) (by decide), ?_⟩
  refine List.forall_mem_cons.mpr ⟨sn_iload_n (k := 1) (by decide +kernel), ?_⟩
  refine List.forall_mem_cons.mpr ⟨⟨i_16, rfl, mk_callS (by decide) (by decide) cs_16 (Or.inl tw_617) (by decide +kernel)⟩, ?_⟩
  refine List.forall_mem_cons.mpr ⟨sn_goto (off := 4) (by decide +kernel) (by decide), ?_⟩
  refine List.forall_mem_cons.mpr ⟨sn_iload_n (k := 1) (by decide +kernel), ?_⟩
  refine List.forall_mem_cons.mpr ⟨sn_istore (k := 4) (by decide +kernel) (by decide), ?_⟩
  refine List.forall_mem_cons.mpr ⟨sn_aload_n (k := 0) (by decide +kernel), ?_⟩
  refine List.forall_mem_cons.mpr ⟨sn_bipush (k := 23) (by decide +kernel) (by decide), ?_⟩
  refine List.forall_mem_cons.mpr ⟨sn_iload_n (k := 2) (by decide +kernel), ?_⟩
  refine List.forall_mem_cons.mpr ⟨sn_bipush (k := 11) (by decide +kernel) (by decide), ?_⟩
  refine List.forall_mem_cons.mpr ⟨sn_icmp_ne (off := 11) (by decide +kernel) (by decide), ?_⟩
  refine List.forall_mem_cons.mpr ⟨sn_iload (k := 4) (by decide +kernel), ?_⟩
  refine List.forall_mem_cons.mpr ⟨⟨i_15, rfl, mk_callS (by decide) (by decide) cs_15 (Or.inl tw_620) (by decide +kernel)⟩, ?_⟩
  refine List.forall_mem_cons.mpr ⟨sn_goto (off := 5) (by decide +kernel) (by decide), ?_⟩
  refine List.forall_mem_cons.mpr ⟨sn_iload (k := 4) (by decide +kernel), ?_⟩
  refine List.forall_mem_cons.mpr ⟨sn_iadd (by decide +kernel), ?_⟩
  refine List.forall_mem_cons.mpr ⟨sn_iload_n (k := 3) (by decide +kernel), ?_⟩
  refine List.forall_mem_cons.mpr ⟨⟨i_88, rfl, mk_callV (by decide) (by decide) cv_88 (Or.inl tw_582) rfl (by decide +kernel)⟩, ?_⟩
  refine List.forall_mem_cons.mpr ⟨sn_aload_n (k := 0) (by decide +kernel), ?_⟩
  refine List.forall_mem_cons.mpr ⟨sn_iconst (k := 2) (by decide +kernel) (by decide), ?_⟩
  refine List.forall_mem_cons.mpr ⟨⟨i_91, rfl, mk_callV (by decide) (by decide) cv_91 (Or.inl tw_593) rfl (by decide +kernel)⟩, ?_⟩
  refine List.forall_mem_cons.mpr ⟨⟨rfl, (by decide +kernel : decode prog_10_method_16_code 61 = .ok (.return_, 1))⟩, ?_⟩
  exact fun _ h => absurd h List.not_mem_nil
set_option maxRecDepth 20000 in
theorem ok_102 : ∀ q ∈ mt_102, mx_ok mx_I0 i_102 q.1 q.2 := by
  refine List.forall_mem_cons.mpr ⟨sn_aload_n (k := 0) (by decide +kernel), ?_⟩
  refine List.forall_mem_cons.mpr ⟨sn_getf (by decide +kernel) rfl tbX8 (by decide) tw_181, ?_⟩
  refine List.forall_mem_cons.mpr ⟨⟨i_2, rfl, mk_callV (by decide) (by decide) cv_2 (Or.inl tw_576) rfl (by decide +kernel)⟩, ?_⟩
  refine List.forall_mem_cons.mpr ⟨sn_iconst (k := 1) (by decide +kernel) (by decide), ?_⟩
  refine List.forall_mem_cons.mpr ⟨sn_isub (by decide +kernel), ?_⟩
  refine List.forall_mem_cons.mpr ⟨sn_istore_n (k := 3) (by decide +kernel) (by decide), ?_⟩
  refine List.forall_mem_cons.mpr ⟨sn_aload_n (k := 0) (by decide +kernel), ?_⟩
  refine List.forall_mem_cons.mpr ⟨sn_iconst (k := 0) (by decide +kernel) (by decide), ?_⟩
  refine List.forall_mem_cons.mpr ⟨sn_iload_n (k := 3) (by decide +kernel), ?_⟩
  refine List.forall_mem_cons.mpr ⟨⟨i_94, rfl, mk_callV (by decide) (by decide) cv_94 (Or.inl tw_578) rfl (by decide +kernel)⟩, ?_⟩
  refine List.forall_mem_cons.mpr ⟨sn_aload_n (k := 0) (by decide +kernel), ?_⟩
  refine List.forall_mem_cons.mpr ⟨sn_iload_n (k := 3) (by decide +kernel), ?_⟩
  refine List.forall_mem_cons.mpr ⟨⟨i_93, rfl, mk_callV (by decide) (by decide) cv_93 (Or.inl tw_588) rfl (by decide +kernel)⟩, ?_⟩
  refine List.forall_mem_cons.mpr ⟨sn_aload_n (k := 0) (by decide +kernel), ?_⟩
  refine List.forall_mem_cons.mpr ⟨sn_iconst (k := 1) (by decide +kernel) (by decide), ?_⟩
  refine List.forall_mem_cons.mpr ⟨sn_iload_n (k := 1) (by decide +kernel), ?_⟩
  refine List.forall_mem_cons.mpr ⟨⟨i_88, rfl, mk_callV (by decide) (by decide) cv_88 (Or.inl tw_582) rfl (by decide +kernel)⟩, ?_⟩
  refine List.forall_mem_cons.mpr ⟨sn_aload_n (k := 0) (by decide +kernel), ?_⟩
  refine List.forall_mem_cons.mpr ⟨sn_iload_n (k := 3) (by decide +kernel), ?_⟩
  refine List.forall_mem_cons.mpr ⟨sn_putf tyX8 (by decide +kernel) rfl tbX8 tyX8_ok nmX8 (by decide) tw_184 (Or.inl rfl) rfl, ?_⟩
  refine List.forall_mem_cons.mpr ⟨sn_aload_n (k := 0) (by decide +kernel), ?_⟩
  refine List.forall_mem_cons.mpr ⟨sn_iconst (k := (-1)) (by decide +kernel) (by decide), ?_⟩
  refine List.forall_mem_cons.mpr ⟨sn_putf tyX8 (by decide +kernel) rfl tbX8 tyX8_ok nmX8 (by decide) tw_183 (Or.inl rfl) rfl, ?_⟩
  refine List.forall_mem_cons.mpr ⟨sn_aload_n (k := 0) (by decide +kernel), ?_⟩
  refine List.forall_mem_cons.mpr ⟨sn_bipush (k := 23) (by decide +kernel) (by decide), ?_⟩
  refine List.forall_mem_cons.mpr ⟨sn_iload_n (k := 2) (by decide +kernel), ?_⟩
  refine List.forall_mem_cons.mpr ⟨⟨i_88, rfl, mk_callV (by decide) (by decide) cv_88 (Or.inl tw_582) rfl (by decide +kernel)⟩, ?_⟩
  refine List.forall_mem_cons.mpr ⟨⟨rfl, (by decide +kernel : decode prog_10_method_17_code 44 = .ok (.return_, 1))⟩, ?_⟩
  exact fun _ h => absurd h List.not_mem_nil
set_option maxRecDepth 20000 in
theorem ok_103 : ∀ q ∈ mt_103, mx_ok mx_I0 i_103 q.1 q.2 := by
  refine List.forall_mem_cons.mpr ⟨sn_aload_n (k := 0) (by decide +kernel), ?_⟩
  refine List.forall_mem_cons.mpr ⟨sn_obj (by decide +kernel) tw_89 tw_90 tw_oi (by decide) (by decide), ?_⟩
  refine List.forall_mem_cons.mpr ⟨sn_aload_n (k := 0) (by decide +kernel), ?_⟩
  refine List.forall_mem_cons.mpr ⟨sn_new tyX1 (by decide +kernel) rfl tbX1 tyX1_ok tw_92 tw_93 tw_67 rfl (by decide), ?_⟩
  refine List.forall_mem_cons.mpr ⟨sn_dup (by decide +kernel), ?_⟩
  refine List.forall_mem_cons.mpr ⟨⟨i_24, rfl, mk_callI (by decide) (by decide) ci_24 (Or.inr ⟨_, tw_94⟩) (by decide +kernel)⟩, ?_⟩
  refine List.forall_mem_cons.mpr ⟨sn_putf tyX9 (by decide +kernel) rfl tbX9 tyX9_ok nmX9 (by decide) tw_286 (Or.inr ⟨rfl, rfl, rfl⟩) rfl, ?_⟩
  refine List.forall_mem_cons.mpr ⟨sn_aload_n (k := 0) (by decide +kernel), ?_⟩
  refine List.forall_mem_cons.mpr ⟨sn_new tyX3 (by decide +kernel) rfl tbX3 tyX3_ok tw_119 tw_120 tw_69 rfl (by decide), ?_⟩
  refine List.forall_mem_cons.mpr ⟨sn_dup (by decide +kernel), ?_⟩
  refine List.forall_mem_cons.mpr ⟨sn_aload_n (k := 0) (by decide +kernel), ?_⟩
  refine List.forall_mem_cons.mpr ⟨sn_getf (by decide +kernel) rfl tbX9 (by decide) tw_286, ?_⟩
  refine List.forall_mem_cons.mpr ⟨⟨i_54, rfl, mk_callI (by decide) (by decide) ci_54 (Or.inl tw_121) (by decide +kernel)⟩, ?_⟩
  refine List.forall_mem_cons.mpr ⟨sn_putf tyX9 (by decide +kernel) rfl tbX9 tyX9_ok nmX9 (by decide) tw_287 (Or.inr ⟨rfl, rfl, rfl⟩) rfl, ?_⟩
  refine List.forall_mem_cons.mpr ⟨sn_aload_n (k := 0) (by decide +kernel), ?_⟩
  refine List.forall_mem_cons.mpr ⟨sn_new tyX2 (by decide +kernel) rfl tbX2 tyX2_ok tw_149 tw_150 tw_70 rfl (by decide), ?_⟩
  refine List.forall_mem_cons.mpr ⟨sn_dup (by decide +kernel), ?_⟩
  refine List.forall_mem_cons.mpr ⟨⟨i_71, rfl, mk_callI (by decide) (by decide) ci_71 (Or.inr ⟨_, tw_151⟩) (by decide +kernel)⟩, ?_⟩
  refine List.forall_mem_cons.mpr ⟨sn_putf tyX9 (by decide +kernel) rfl tbX9 tyX9_ok nmX9 (by decide) tw_288 (Or.inr ⟨rfl, rfl, rfl⟩) rfl, ?_⟩
  refine List.forall_mem_cons.mpr ⟨sn_aload_n (k := 0) (by decide +kernel), ?_⟩
  refine List.forall_mem_cons.mpr ⟨sn_new tyX8 (by decide +kernel) rfl tbX8 tyX8_ok tw_172 tw_173 tw_71 rfl (by decide), ?_⟩
  refine List.forall_mem_cons.mpr ⟨sn_dup (by decide +kernel), ?_⟩
  refine List.forall_mem_cons.mpr ⟨⟨i_86, rfl, mk_callI (by decide) (by decide) ci_86 (Or.inr ⟨_, tw_174⟩) (by decide +kernel)⟩, ?_⟩
  refine List.forall_mem_cons.mpr ⟨sn_putf tyX9 (by decide +kernel) rfl tbX9 tyX9_ok nmX9 (by decide) tw_289 (Or.inr ⟨rfl, rfl, rfl⟩) rfl, ?_⟩
  refine List.forall_mem_cons.mpr ⟨sn_aload_n (k := 0) (by decide +kernel), ?_⟩
  refine List.forall_mem_cons.mpr ⟨sn_new tyX7 (by decide +kernel) rfl tbX7 tyX7_ok tw_196 tw_197 tw_72 rfl (by decide), ?_⟩
  refine List.forall_mem_cons.mpr ⟨sn_dup (by decide +kernel), ?_⟩
  refine List.forall_mem_cons.mpr ⟨⟨i_34, rfl, mk_callI (by decide) (by decide) ci_34 (Or.inr ⟨_, tw_198⟩) (by decide +kernel)⟩, ?_⟩
  refine List.forall_mem_cons.mpr ⟨sn_putf tyX9 (by decide +kernel) rfl tbX9 tyX9_ok nmX9 (by decide) tw_290 (Or.inr ⟨rfl, rfl, rfl⟩) rfl, ?_⟩
  refine List.forall_mem_cons.mpr ⟨sn_aload_n (k := 0) (by decide +kernel), ?_⟩
  refine List.forall_mem_cons.mpr ⟨sn_new tyX5 (by decide +kernel) rfl tbX5 tyX5_ok tw_214 tw_215 tw_73 rfl (by decide), ?_⟩
  refine List.forall_mem_cons.mpr ⟨sn_dup (by decide +kernel), ?_⟩
  refine List.forall_mem_cons.mpr ⟨⟨i_17, rfl, mk_callI (by decide) (by decide) ci_17 (Or.inr ⟨_, tw_216⟩) (by decide +kernel)⟩, ?_⟩
  refine List.forall_mem_cons.mpr ⟨sn_putf tyX9 (by decide +kernel) rfl tbX9 tyX9_ok nmX9 (by decide) tw_291 (Or.inr ⟨rfl, rfl, rfl⟩) rfl, ?_⟩
  refine List.forall_mem_cons.mpr ⟨sn_aload_n (k := 0) (by decide +kernel), ?_⟩
  refine List.forall_mem_cons.mpr ⟨sn_new tyX4 (by decide +kernel) rfl tbX4 tyX4_ok tw_227 tw_228 tw_74 rfl (by decide), ?_⟩
  refine List.forall_mem_cons.mpr ⟨sn_dup (by decide +kernel), ?_⟩
  refine List.forall_mem_cons.mpr ⟨sn_aload_n (k := 0) (by decide +kernel), ?_⟩
  refine List.forall_mem_cons.mpr ⟨sn_getf (by decide +kernel) rfl tbX9 (by decide) tw_291, ?_⟩
  refine List.forall_mem_cons.mpr ⟨⟨i_40, rfl, mk_callI (by decide) (by decide) ci_40 (Or.inl tw_229) (by decide +kernel)⟩, ?_⟩
  refine List.forall_mem_cons.mpr ⟨sn_putf tyX9 (by decide +kernel) rfl tbX9 tyX9_ok nmX9 (by decide) tw_292 (Or.inr ⟨rfl, rfl, rfl⟩) rfl, ?_⟩
  refine List.forall_mem_cons.mpr ⟨⟨rfl, (by decide +kernel : decode prog_1_method_1_code 89 = .ok (.return_, 1))⟩, ?_⟩
  exact fun _ h => absurd h List.not_mem_nil
set_option maxRecDepth 20000 in
theorem ok_104 : ∀ q ∈ mt_104, mx_ok mx_I0 i_104 q.1 q.2 := by
  refine List.forall_mem_cons.mpr ⟨sn_aload_n (k := 0) (by decide +kernel), ?_⟩
  refine List.forall_mem_cons.mpr ⟨sn_getf (by decide +kernel) rfl tbX9 (by decide) tw_286, ?_⟩
  refine List.forall_mem_cons.mpr ⟨⟨i_25, rfl, mk_callV (by decide) (by decide) cv_25 (Or.inl tw_315) rfl (by decide +kernel)⟩, ?_⟩
  refine List.forall_mem_cons.mpr ⟨sn_sipush (k := 400) (by decide +kernel) (by decide), ?_⟩
  refine List.forall_mem_cons.mpr ⟨sn_icmp_lt (off := 5) (by decide +kernel) (by decide), ?_⟩
  refine List.forall_mem_cons.mpr ⟨sn_iconst (k := (-1)) (by decide +kernel) (by decide), ?_⟩
  refine List.forall_mem_cons.mpr ⟨⟨rfl, (by decide +kernel : decode prog_1_method_2_code 14 = .ok (.ireturn, 1))⟩, ?_⟩
  refine List.forall_mem_cons.mpr ⟨sn_aload_n (k := 0) (by decide +kernel), ?_⟩
  refine List.forall_mem_cons.mpr ⟨sn_getf (by decide +kernel) rfl tbX9 (by decide) tw_286, ?_⟩
  refine List.forall_mem_cons.mpr ⟨sn_iload_n (k := 1) (by decide +kernel), ?_⟩
  refine List.forall_mem_cons.mpr ⟨sn_iload_n (k := 2) (by decide +kernel), ?_⟩
  refine List.forall_mem_cons.mpr ⟨⟨i_28, rfl, mk_callV (by decide) (by decide) cv_28 (Or.inl tw_323) rfl (by decide +kernel)⟩, ?_⟩
  refine List.forall_mem_cons.mpr ⟨sn_aload_n (k := 0) (by decide +kernel), ?_⟩
  refine List.forall_mem_cons.mpr ⟨⟨i_112, rfl, mk_callV (by decide) (by decide) cv_112 (Or.inl tw_328) rfl (by decide +kernel)⟩, ?_⟩
  refine List.forall_mem_cons.mpr ⟨sn_aload_n (k := 0) (by decide +kernel), ?_⟩
  refine List.forall_mem_cons.mpr ⟨sn_getf (by decide +kernel) rfl tbX9 (by decide) tw_286, ?_⟩
  refine List.forall_mem_cons.mpr ⟨⟨i_25, rfl, mk_callV (by decide) (by decide) cv_25 (Or.inl tw_315) rfl (by decide +kernel)⟩, ?_⟩
  refine List.forall_mem_cons.mpr ⟨⟨rfl, (by decide +kernel : decode prog_1_method_2_code 35 = .ok (.ireturn, 1))⟩, ?_⟩
  exact fun _ h => absurd h List.not_mem_nil
set_option maxRecDepth 20000 in
theorem ok_105 : ∀ q ∈ mt_105, mx_ok mx_I0 i_105 q.1 q.2 := by
  refine List.forall_mem_cons.mpr ⟨sn_aload_n (k := 0) (by decide +kernel), ?_⟩
  refine List.forall_mem_cons.mpr ⟨sn_getf (by decide +kernel) rfl tbX9 (by decide) tw_286, ?_⟩
  refine List.forall_mem_cons.mpr ⟨sn_iconst (k := 0) (by decide +kernel) (by decide), ?_⟩
  refine List.forall_mem_cons.mpr ⟨⟨i_29, rfl, mk_callV (by decide) (by decide) cv_29 (Or.inl tw_340) rfl (by decide +kernel)⟩, ?_⟩
  refine List.forall_mem_cons.mpr ⟨sn_aload_n (k := 0) (by decide +kernel), ?_⟩
  refine List.forall_mem_cons.mpr ⟨⟨i_112, rfl, mk_callV (by decide) (by decide) cv_112 (Or.inl tw_328) rfl (by decide +kernel)⟩, ?_⟩
  refine List.forall_mem_cons.mpr ⟨⟨rfl, (by decide +kernel : decode prog_1_method_3_code 12 = .ok (.return_, 1))⟩, ?_⟩
  exact fun _ h => absurd h List.not_mem_nil
set_option maxRecDepth 20000 in
theorem ok_106 : ∀ q ∈ mt_106, mx_ok mx_I0 i_106 q.1 q.2 := by
  refine List.forall_mem_cons.mpr ⟨sn_aload_n (k := 0) (by decide +kernel), ?_⟩
  refine List.forall_mem_cons.mpr ⟨sn_getf (by decide +kernel) rfl tbX9 (by decide) tw_287, ?_⟩
  refine List.forall_mem_cons.mpr ⟨⟨i_56, rfl, mk_callV (by decide) (by decide) cv_56 (Or.inl tw_352) rfl (by decide +kernel)⟩, ?_⟩
  refine List.forall_mem_cons.mpr ⟨⟨rfl, (by decide +kernel : decode prog_1_method_4_code 7 = .ok (.ireturn, 1))⟩, ?_⟩
  exact fun _ h => absurd h List.not_mem_nil
set_option maxRecDepth 20000 in
theorem ok_107 : ∀ q ∈ mt_107, mx_ok mx_I0 i_107 q.1 q.2 := by
  refine List.forall_mem_cons.mpr ⟨sn_iload_n (k := 1) (by decide +kernel), ?_⟩
  refine List.forall_mem_cons.mpr ⟨sn_if_lt (off := 20) (by decide +kernel) (by decide), ?_⟩
  refine List.forall_mem_cons.mpr ⟨sn_iload_n (k := 1) (by decide +kernel), ?_⟩
  refine List.forall_mem_cons.mpr ⟨sn_sipush (k := 20000) (by decide +kernel) (by decide), ?_⟩
  refine List.forall_mem_cons.mpr ⟨sn_icmp_gt (off := 13) (by decide +kernel) (by decide), ?_⟩
  refine List.forall_mem_cons.mpr ⟨sn_aload_n (k := 0) (by decide +kernel), ?_⟩
  refine List.forall_mem_cons.mpr ⟨sn_getf (by decide +kernel) rfl tbX9 (by decide) tw_287, ?_⟩
  refine List.forall_mem_cons.mpr ⟨⟨i_56, rfl, mk_callV (by decide) (by decide) cv_56 (Or.inl tw_352) rfl (by decide +kernel)⟩, ?_⟩
  refine List.forall_mem_cons.mpr ⟨sn_if_ne (off := 5) (by decide +kernel) (by decide), ?_⟩
  refine List.forall_mem_cons.mpr ⟨sn_iconst (k := (-1)) (by decide +kernel) (by decide), ?_⟩
  refine List.forall_mem_cons.mpr ⟨⟨rfl, (by decide +kernel : decode prog_1_method_5_code 22 = .ok (.ireturn, 1))⟩, ?_⟩
  refine List.forall_mem_cons.mpr ⟨sn_aload_n (k := 0) (by decide +kernel), ?_⟩
  refine List.forall_mem_cons.mpr ⟨sn_getf (by decide +kernel) rfl tbX9 (by decide) tw_293, ?_⟩
  refine List.forall_mem_cons.mpr ⟨sn_if_ne (off := 43) (by decide +kernel) (by decide), ?_⟩
  refine List.forall_mem_cons.mpr ⟨sn_aload_n (k := 0) (by decide +kernel), ?_⟩
  refine List.forall_mem_cons.mpr ⟨sn_getf (by decide +kernel) rfl tbX9 (by decide) tw_288, ?_⟩
  refine List.forall_mem_cons.mpr ⟨sn_aload_n (k := 0) (by decide +kernel), ?_⟩
  refine List.forall_mem_cons.mpr ⟨sn_getf (by decide +kernel) rfl tbX9 (by decide) tw_286, ?_⟩
  refine List.forall_mem_cons.mpr ⟨sn_aload_n (k := 0) (by decide +kernel), ?_⟩
  refine List.forall_mem_cons.mpr ⟨sn_getf (by decide +kernel) rfl tbX9 (by decide) tw_287, ?_⟩
  refine List.forall_mem_cons.mpr ⟨⟨i_72, rfl, mk_callV (by decide) (by decide) cv_72 (Or.inl tw_449) rfl (by decide +kernel)⟩, ?_⟩
  refine List.forall_mem_cons.mpr ⟨sn_astore_n (k := 2) (by decide +kernel) (by decide), ?_⟩
  refine List.forall_mem_cons.mpr ⟨sn_aload_n (k := 0) (by decide +kernel), ?_⟩
  refine List.forall_mem_cons.mpr ⟨sn_getf (by decide +kernel) rfl tbX9 (by decide) tw_290, ?_⟩
  refine List.forall_mem_cons.mpr ⟨sn_aload_n (k := 0) (by decide +kernel), ?_⟩
  refine List.forall_mem_cons.mpr ⟨sn_getf (by decide +kernel) rfl tbX9 (by decide) tw_289, ?_⟩
  refine List.forall_mem_cons.mpr ⟨sn_aload_n (k := 2) (by decide +kernel), ?_⟩
  refine List.forall_mem_cons.mpr ⟨sn_aload_n (k := 0) (by decide +kernel), ?_⟩
  refine List.forall_mem_cons.mpr ⟨sn_getf (by decide +kernel) rfl tbX9 (by decide) tw_287, ?_⟩
  refine List.forall_mem_cons.mpr ⟨⟨i_87, rfl, mk_callV (by decide) (by decide) cv_87 (Or.inl tw_554) rfl (by decide +kernel)⟩, ?_⟩
  refine List.forall_mem_cons.mpr ⟨⟨i_35, rfl, mk_callV (by decide) (by decide) cv_35 (Or.inl tw_641) rfl (by decide +kernel)⟩, ?_⟩
  refine List.forall_mem_cons.mpr ⟨sn_aload_n (k := 0) (by decide +kernel), ?_⟩
  refine List.forall_mem_cons.mpr ⟨sn_iconst (k := 1) (by decide +kernel) (by decide), ?_⟩
  refine List.forall_mem_cons.mpr ⟨sn_putf tyX9 (by decide +kernel) rfl tbX9 tyX9_ok nmX9 (by decide) tw_293 (Or.inl rfl) rfl, ?_⟩
  refine List.forall_mem_cons.mpr ⟨sn_aload_n (k := 0) (by decide +kernel), ?_⟩
  refine List.forall_mem_cons.mpr ⟨sn_getf (by decide +kernel) rfl tbX9 (by decide) tw_292, ?_⟩
  refine List.forall_mem_cons.mpr ⟨sn_aload_n (k := 0) (by decide +kernel), ?_⟩
  refine List.forall_mem_cons.mpr ⟨sn_getf (by decide +kernel) rfl tbX9 (by decide) tw_290, ?_⟩
  refine List.forall_mem_cons.mpr ⟨sn_iload_n (k := 1) (by decide +kernel), ?_⟩
  refine List.forall_mem_cons.mpr ⟨⟨i_41, rfl, mk_callV (by decide) (by decide) cv_41 (Or.inl tw_655) rfl (by decide +kernel)⟩, ?_⟩
  refine List.forall_mem_cons.mpr ⟨⟨rfl, (by decide +kernel : decode prog_1_method_5_code 82 = .ok (.ireturn, 1))⟩, ?_⟩
  exact fun _ h => absurd h List.not_mem_nil
set_option maxRecDepth 20000 in
theorem ok_108 : ∀ q ∈ mt_108, mx_ok mx_I0 i_108 q.1 q.2 := by
  refine List.forall_mem_cons.mpr ⟨sn_aload_n (k := 0) (by decide +kernel), ?_⟩
  refine List.forall_mem_cons.mpr ⟨sn_getf (by decide +kernel) rfl tbX9 (by decide) tw_292, ?_⟩
  refine List.forall_mem_cons.mpr ⟨sn_getfN (by decide +kernel) rfl tbX4 (by decide) tw_266, ?_⟩
  refine List.forall_mem_cons.mpr ⟨⟨rfl, (by decide +kernel : decode prog_1_method_6_code 7 = .ok (.ireturn, 1))⟩, ?_⟩
  exact fun _ h => absurd h List.not_mem_nil
set_option maxRecDepth 20000 in
theorem ok_109 : ∀ q ∈ mt_109, mx_ok mx_I0 i_109 q.1 q.2 := by
  refine List.forall_mem_cons.mpr ⟨sn_aload_n (k := 0) (by decide +kernel), ?_⟩
  refine List.forall_mem_cons.mpr ⟨sn_getf (by decide +kernel) rfl tbX9 (by decide) tw_292, ?_⟩
  refine List.forall_mem_cons.mpr ⟨sn_getfN (by decide +kernel) rfl tbX4 (by decide) tw_268, ?_⟩
  refine List.forall_mem_cons.mpr ⟨⟨rfl, (by decide +kernel : decode prog_1_method_7_code 7 = .ok (.ireturn, 1))⟩, ?_⟩
  exact fun _ h => absurd h List.not_mem_nil
set_option maxRecDepth 20000 in
theorem ok_110 : ∀ q ∈ mt_110, mx_ok mx_I0 i_110 q.1 q.2 := by
  refine List.forall_mem_cons.mpr ⟨sn_aload_n (k := 0) (by decide +kernel), ?_⟩
  refine List.forall_mem_cons.mpr ⟨sn_getf (by decide +kernel) rfl tbX9 (by decide) tw_291, ?_⟩
  refine List.forall_mem_cons.mpr ⟨sn_iload_n (k := 1) (by decide +kernel), ?_⟩
  refine List.forall_mem_cons.mpr ⟨⟨i_20, rfl, mk_callV (by decide) (by decide) cv_20 (Or.inl tw_761) rfl (by decide +kernel)⟩, ?_⟩
  refine List.forall_mem_cons.mpr ⟨sn_istore_n (k := 3) (by decide +kernel) (by decide), ?_⟩
  refine List.forall_mem_cons.mpr ⟨sn_aload_n (k := 0) (by decide +kernel), ?_⟩
  refine List.forall_mem_cons.mpr ⟨sn_getf (by decide +kernel) rfl tbX9 (by decide) tw_291, ?_⟩
  refine List.forall_mem_cons.mpr ⟨sn_iload_n (k := 1) (by decide +kernel), ?_⟩
  refine List.forall_mem_cons.mpr ⟨sn_iload_n (k := 2) (by decide +kernel), ?_⟩
  refine List.forall_mem_cons.mpr ⟨⟨i_21, rfl, mk_callV (by decide) (by decide) cv_21 (Or.inl tw_762) rfl (by decide +kernel)⟩, ?_⟩
  refine List.forall_mem_cons.mpr ⟨sn_iload_n (k := 3) (by decide +kernel), ?_⟩
  refine List.forall_mem_cons.mpr ⟨⟨rfl, (by decide +kernel : decode prog_1_method_8_code 19 = .ok (.ireturn, 1))⟩, ?_⟩
  exact fun _ h => absurd h List.not_mem_nil
set_option maxRecDepth 20000 in
theorem ok_111 : ∀ q ∈ mt_111, mx_ok mx_I0 i_111 q.1 q.2 := by
  refine List.forall_mem_cons.mpr ⟨sn_aload_n (k := 0) (by decide +kernel), ?_⟩
  refine List.forall_mem_cons.mpr ⟨sn_getf (by decide +kernel) rfl tbX9 (by decide) tw_291, ?_⟩
  refine List.forall_mem_cons.mpr ⟨sn_iload_n (k := 1) (by decide +kernel), ?_⟩
  refine List.forall_mem_cons.mpr ⟨⟨i_22, rfl, mk_callV (by decide) (by decide) cv_22 (Or.inl tw_767) rfl (by decide +kernel)⟩, ?_⟩
  refine List.forall_mem_cons.mpr ⟨sn_istore_n (k := 3) (by decide +kernel) (by decide), ?_⟩
  refine List.forall_mem_cons.mpr ⟨sn_aload_n (k := 0) (by decide +kernel), ?_⟩
  refine List.forall_mem_cons.mpr ⟨sn_getf (by decide +kernel) rfl tbX9 (by decide) tw_291, ?_⟩
  refine List.forall_mem_cons.mpr ⟨sn_iload_n (k := 1) (by decide +kernel), ?_⟩
  refine List.forall_mem_cons.mpr ⟨sn_iload_n (k := 2) (by decide +kernel), ?_⟩
  refine List.forall_mem_cons.mpr ⟨⟨i_23, rfl, mk_callV (by decide) (by decide) cv_23 (Or.inl tw_768) rfl (by decide +kernel)⟩, ?_⟩
  refine List.forall_mem_cons.mpr ⟨sn_iload_n (k := 3) (by decide +kernel), ?_⟩
  refine List.forall_mem_cons.mpr ⟨⟨rfl, (by decide +kernel : decode prog_1_method_10_code 19 = .ok (.ireturn, 1))⟩, ?_⟩
  exact fun _ h => absurd h List.not_mem_nil
set_option maxRecDepth 20000 in
theorem ok_112 : ∀ q ∈ mt_112, mx_ok mx_I0 i_112 q.1 q.2 := by
  refine List.forall_mem_cons.mpr ⟨sn_aload_n (k := 0) (by decide +kernel), ?_⟩
  refine List.forall_mem_cons.mpr ⟨sn_getf (by decide +kernel) rfl tbX9 (by decide) tw_287, ?_⟩
  refine List.forall_mem_cons.mpr ⟨⟨i_55, rfl, mk_callV (by decide) (by decide) cv_55 (Or.inl tw_332) rfl (by decide +kernel)⟩, ?_⟩
  refine List.forall_mem_cons.mpr ⟨sn_aload_n (k := 0) (by decide +kernel), ?_⟩
  refine List.forall_mem_cons.mpr ⟨sn_iconst (k := 0) (by decide +kernel) (by decide), ?_⟩
  refine List.forall_mem_cons.mpr ⟨sn_putf tyX9 (by decide +kernel) rfl tbX9 tyX9_ok nmX9 (by decide) tw_293 (Or.inl rfl) rfl, ?_⟩
  refine List.forall_mem_cons.mpr ⟨⟨rfl, (by decide +kernel : decode prog_1_method_12_code 12 = .ok (.return_, 1))⟩, ?_⟩
  exact fun _ h => absurd h List.not_mem_nil
set_option maxRecDepth 20000 in
theorem ok_113 : ∀ q ∈ mt_113, mx_ok mx_I0 i_113 q.1 q.2 := by
  refine List.forall_mem_cons.mpr ⟨sn_iload_n (k := 0) (by decide +kernel), ?_⟩
  refine List.forall_mem_cons.mpr ⟨sn_bipush (k := 11) (by decide +kernel) (by decide), ?_⟩
  refine List.forall_mem_cons.mpr ⟨sn_icmp_eq (off := 9) (by decide +kernel) (by decide), ?_⟩
  refine List.forall_mem_cons.mpr ⟨sn_iload_n (k := 0) (by decide +kernel), ?_⟩
  refine List.forall_mem_cons.mpr ⟨sn_bipush (k := 12) (by decide +kernel) (by decide), ?_⟩
  refine List.forall_mem_cons.mpr ⟨sn_icmp_ne (off := 7) (by decide +kernel) (by decide), ?_⟩
  refine List.forall_mem_cons.mpr ⟨sn_iconst (k := 1) (by decide +kernel) (by decide), ?_⟩
  refine List.forall_mem_cons.mpr ⟨sn_goto (off := 4) (by decide +kernel) (by decide), ?_⟩
  refine List.forall_mem_cons.mpr ⟨sn_iconst (k := 0) (by decide +kernel) (by decide), ?_⟩
  refine List.forall_mem_cons.mpr ⟨⟨rfl, (by decide +kernel : decode prog_1_method_13_code 17 = .ok (.ireturn, 1))⟩, ?_⟩
  exact fun _ h => absurd h List.not_mem_nil
set_option maxRecDepth 20000 in
theorem ok_114 : ∀ q ∈ mt_114, mx_ok mx_I0 i_114 q.1 q.2 := by
  refine List.forall_mem_cons.mpr ⟨sn_iload_n (k := 0) (by decide +kernel), ?_⟩
  refine List.forall_mem_cons.mpr ⟨sn_bipush (k := 10) (by decide +kernel) (by decide), ?_⟩
  refine List.forall_mem_cons.mpr ⟨sn_icmp_eq (off := 10) (by decide +kernel) (by decide), ?_⟩
  refine List.forall_mem_cons.mpr ⟨sn_iload_n (k := 0) (by decide +kernel), ?_⟩
  refine List.forall_mem_cons.mpr ⟨⟨i_113, rfl, mk_callS (by decide) (by decide) cs_113 (Or.inl tw_392) (by decide +kernel)⟩, ?_⟩
  refine List.forall_mem_cons.mpr ⟨sn_if_eq (off := 7) (by decide +kernel) (by decide), ?_⟩
  refine List.forall_mem_cons.mpr ⟨sn_iconst (k := 1) (by decide +kernel) (by decide), ?_⟩
  refine List.forall_mem_cons.mpr ⟨sn_goto (off := 4) (by decide +kernel) (by decide), ?_⟩
  refine List.forall_mem_cons.mpr ⟨sn_iconst (k := 0) (by decide +kernel) (by decide), ?_⟩
  refine List.forall_mem_cons.mpr ⟨⟨rfl, (by decide +kernel : decode prog_1_method_14_code 18 = .ok (.ireturn, 1))⟩, ?_⟩
  exact fun _ h => absurd h List.not_mem_nil
set_option maxRecDepth 20000 in
theorem ok_115 : ∀ q ∈ mt_115, mx_ok mx_I0 i_115 q.1 q.2 := by
  refine List.forall_mem_cons.mpr ⟨sn_iload_n (k := 0) (by decide +kernel), ?_⟩
  refine List.forall_mem_cons.mpr ⟨sn_bipush (k := 10) (by decide +kernel) (by decide), ?_⟩
  refine List.forall_mem_cons.mpr ⟨sn_icmp_eq (off := 15) (by decide +kernel) (by decide), ?_⟩
  refine List.forall_mem_cons.mpr ⟨sn_iload_n (k := 0) (by decide +kernel), ?_⟩
  refine List.forall_mem_cons.mpr ⟨sn_bipush (k := 16) (by decide +kernel) (by decide), ?_⟩
  refine List.forall_mem_cons.mpr ⟨sn_icmp_eq (off := 9) (by decide +kernel) (by decide), ?_⟩
  refine List.forall_mem_cons.mpr ⟨sn_iload_n (k := 0) (by decide +kernel), ?_⟩
  refine List.forall_mem_cons.mpr ⟨sn_bipush (k := 17) (by decide +kernel) (by decide), ?_⟩
  refine List.forall_mem_cons.mpr ⟨sn_icmp_ne (off := 7) (by decide +kernel) (by decide), ?_⟩
  refine List.forall_mem_cons.mpr ⟨sn_iconst (k := 1) (by decide +kernel) (by decide), ?_⟩
  refine List.forall_mem_cons.mpr ⟨sn_goto (off := 4) (by decide +kernel) (by decide), ?_⟩
  refine List.forall_mem_cons.mpr ⟨sn_iconst (k := 0) (by decide +kernel) (by decide), ?_⟩
  refine List.forall_mem_cons.mpr ⟨⟨rfl, (by decide +kernel : decode prog_1_method_15_code 23 = .ok (.ireturn, 1))⟩, ?_⟩
  exact fun _ h => absurd h List.not_mem_nil
set_option maxRecDepth 20000 in
theorem ok_116 : ∀ q ∈ mt_116, mx_ok mx_I0 i_116 q.1 q.2 := by
  refine List.forall_mem_cons.mpr ⟨sn_aload_n (k := 0) (by decide +kernel), ?_⟩
  refine List.forall_mem_cons.mpr ⟨sn_obj (by decide +kernel) tw_858 tw_90 tw_oi (by decide) (by decide), ?_⟩
  refine List.forall_mem_cons.mpr ⟨sn_aload_n (k := 0) (by decide +kernel), ?_⟩
  refine List.forall_mem_cons.mpr ⟨sn_sipush (k := 400) (by decide +kernel) (by decide), ?_⟩
  refine List.forall_mem_cons.mpr ⟨sn_newi (by decide +kernel) tw_111, ?_⟩
  refine List.forall_mem_cons.mpr ⟨sn_putf tyX10 (by decide +kernel) rfl tbX10 tyX10_ok nmX10 (by decide) tw_861 (Or.inr ⟨rfl, rfl, rfl⟩) rfl, ?_⟩
  refine List.forall_mem_cons.mpr ⟨sn_aload_n (k := 0) (by decide +kernel), ?_⟩
  refine List.forall_mem_cons.mpr ⟨sn_sipush (k := 400) (by decide +kernel) (by decide), ?_⟩
  refine List.forall_mem_cons.mpr ⟨sn_newi (by decide +kernel) tw_111, ?_⟩
  refine List.forall_mem_cons.mpr ⟨sn_putf tyX10 (by decide +kernel) rfl tbX10 tyX10_ok nmX10 (by decide) tw_862 (Or.inr ⟨rfl, rfl, rfl⟩) rfl, ?_⟩
  refine List.forall_mem_cons.mpr ⟨sn_aload_n (k := 0) (by decide +kernel), ?_⟩
  refine List.forall_mem_cons.mpr ⟨sn_bipush (k := 16) (by decide +kernel) (by decide), ?_⟩
  refine List.forall_mem_cons.mpr ⟨sn_newi (by decide +kernel) tw_111, ?_⟩
  refine List.forall_mem_cons.mpr ⟨sn_putf tyX10 (by decide +kernel) rfl tbX10 tyX10_ok nmX10 (by decide) tw_863 (Or.inr ⟨rfl, rfl, rfl⟩) rfl, ?_⟩
  refine List.forall_mem_cons.mpr ⟨sn_aload_n (k := 0) (by decide +kernel), ?_⟩
  refine List.forall_mem_cons.mpr ⟨sn_bipush (k := 64) (by decide +kernel) (by decide), ?_⟩
  refine List.forall_mem_cons.mpr ⟨sn_newi (by decide +kernel) tw_111, ?_⟩
  refine List.forall_mem_cons.mpr ⟨sn_putf tyX10 (by decide +kernel) rfl tbX10 tyX10_ok nmX10 (by decide) tw_864 (Or.inr ⟨rfl, rfl, rfl⟩) rfl, ?_⟩
  refine List.forall_mem_cons.mpr ⟨sn_aload_n (k := 0) (by decide +kernel), ?_⟩
  refine List.forall_mem_cons.mpr ⟨sn_sipush (k := 400) (by decide +kernel) (by decide), ?_⟩
  refine List.forall_mem_cons.mpr ⟨sn_newi (by decide +kernel) tw_111, ?_⟩
  refine List.forall_mem_cons.mpr ⟨sn_putf tyX10 (by decide +kernel) rfl tbX10 tyX10_ok nmX10 (by decide) tw_867 (Or.inr ⟨rfl, rfl, rfl⟩) rfl, ?_⟩
  refine List.forall_mem_cons.mpr ⟨sn_aload_n (k := 0) (by decide +kernel), ?_⟩
  refine List.forall_mem_cons.mpr ⟨sn_sipush (k := 400) (by decide +kernel) (by decide), ?_⟩
  refine List.forall_mem_cons.mpr ⟨sn_newz (by decide +kernel) tw_896, ?_⟩
  refine List.forall_mem_cons.mpr ⟨sn_putf tyX10 (by decide +kernel) rfl tbX10 tyX10_ok nmX10 (by decide) tw_868 (Or.inr ⟨rfl, rfl, rfl⟩) rfl, ?_⟩
  refine List.forall_mem_cons.mpr ⟨sn_aload_n (k := 0) (by decide +kernel), ?_⟩
  refine List.forall_mem_cons.mpr ⟨sn_bipush (k := 61) (by decide +kernel) (by decide), ?_⟩
  refine List.forall_mem_cons.mpr ⟨sn_newi (by decide +kernel) tw_111, ?_⟩
  refine List.forall_mem_cons.mpr ⟨sn_putf tyX10 (by decide +kernel) rfl tbX10 tyX10_ok nmX10 (by decide) tw_869 (Or.inr ⟨rfl, rfl, rfl⟩) rfl, ?_⟩
  refine List.forall_mem_cons.mpr ⟨⟨rfl, (by decide +kernel : decode prog_12_method_1_code 64 = .ok (.return_, 1))⟩, ?_⟩
  exact fun _ h => absurd h List.not_mem_nil
set_option maxRecDepth 20000 in
theorem ok_117 : ∀ q ∈ mt_117, mx_ok mx_I0 i_117 q.1 q.2 := by
  refine List.forall_mem_cons.mpr ⟨sn_aload_n (k := 0) (by decide +kernel), ?_⟩
  refine List.forall_mem_cons.mpr ⟨sn_getf (by decide +kernel) rfl tbX10 (by decide) tw_859, ?_⟩
  refine List.forall_mem_cons.mpr ⟨⟨rfl, (by decide +kernel : decode prog_12_method_2_code 4 = .ok (.ireturn, 1))⟩, ?_⟩
  exact fun _ h => absurd h List.not_mem_nil
set_option maxRecDepth 20000 in
theorem ok_118 : ∀ q ∈ mt_118, mx_ok mx_I0 i_118 q.1 q.2 := by
  refine List.forall_mem_cons.mpr ⟨sn_aload_n (k := 0) (by decide +kernel), ?_⟩
  refine List.forall_mem_cons.mpr ⟨sn_iconst (k := 0) (by decide +kernel) (by decide), ?_⟩
  refine List.forall_mem_cons.mpr ⟨sn_putf tyX10 (by decide +kernel) rfl tbX10 tyX10_ok nmX10 (by decide) tw_859 (Or.inl rfl) rfl, ?_⟩
  refine List.forall_mem_cons.mpr ⟨sn_aload_n (k := 0) (by decide +kernel), ?_⟩
  refine List.forall_mem_cons.mpr ⟨sn_getf (by decide +kernel) rfl tbX10 (by decide) tw_860, ?_⟩
  refine List.forall_mem_cons.mpr ⟨sn_sipush (k := 400) (by decide +kernel) (by decide), ?_⟩
  refine List.forall_mem_cons.mpr ⟨sn_icmp_ne (off := 5) (by decide +kernel) (by decide), ?_⟩
  refine List.forall_mem_cons.mpr ⟨sn_iconst (k := (-1)) (by decide +kernel) (by decide), ?_⟩
  refine List.forall_mem_cons.mpr ⟨⟨rfl, (by decide +kernel : decode prog_12_method_3_code 16 = .ok (.ireturn, 1))⟩, ?_⟩
  refine List.forall_mem_cons.mpr ⟨sn_aload_n (k := 0) (by decide +kernel), ?_⟩
  refine List.forall_mem_cons.mpr ⟨sn_getf (by decide +kernel) rfl tbX10 (by decide) tw_861, ?_⟩
  refine List.forall_mem_cons.mpr ⟨sn_aload_n (k := 0) (by decide +kernel), ?_⟩
  refine List.forall_mem_cons.mpr ⟨sn_getf (by decide +kernel) rfl tbX10 (by decide) tw_860, ?_⟩
  refine List.forall_mem_cons.mpr ⟨sn_iload_n (k := 1) (by decide +kernel), ?_⟩
  refine List.forall_mem_cons.mpr ⟨sn_iast (by decide +kernel), ?_⟩
  refine List.forall_mem_cons.mpr ⟨sn_aload_n (k := 0) (by decide +kernel), ?_⟩
  refine List.forall_mem_cons.mpr ⟨sn_getf (by decide +kernel) rfl tbX10 (by decide) tw_862, ?_⟩
  refine List.forall_mem_cons.mpr ⟨sn_aload_n (k := 0) (by decide +kernel), ?_⟩
  refine List.forall_mem_cons.mpr ⟨sn_getf (by decide +kernel) rfl tbX10 (by decide) tw_860, ?_⟩
  refine List.forall_mem_cons.mpr ⟨sn_iload_n (k := 2) (by decide +kernel), ?_⟩
  refine List.forall_mem_cons.mpr ⟨sn_iast (by decide +kernel), ?_⟩
  refine List.forall_mem_cons.mpr ⟨sn_aload_n (k := 0) (by decide +kernel), ?_⟩
  refine List.forall_mem_cons.mpr ⟨sn_dup (by decide +kernel), ?_⟩
  refine List.forall_mem_cons.mpr ⟨sn_getf (by decide +kernel) rfl tbX10 (by decide) tw_860, ?_⟩
  refine List.forall_mem_cons.mpr ⟨sn_iconst (k := 1) (by decide +kernel) (by decide), ?_⟩
  refine List.forall_mem_cons.mpr ⟨sn_iadd (by decide +kernel), ?_⟩
  refine List.forall_mem_cons.mpr ⟨sn_putf tyX10 (by decide +kernel) rfl tbX10 tyX10_ok nmX10 (by decide) tw_860 (Or.inl rfl) rfl, ?_⟩
  refine List.forall_mem_cons.mpr ⟨sn_aload_n (k := 0) (by decide +kernel), ?_⟩
  refine List.forall_mem_cons.mpr ⟨sn_getf (by decide +kernel) rfl tbX10 (by decide) tw_860, ?_⟩
  refine List.forall_mem_cons.mpr ⟨⟨rfl, (by decide +kernel : decode prog_12_method_3_code 51 = .ok (.ireturn, 1))⟩, ?_⟩
  exact fun _ h => absurd h List.not_mem_nil
set_option maxRecDepth 20000 in
theorem ok_119 : ∀ q ∈ mt_119, mx_ok mx_I0 i_119 q.1 q.2 := by
  refine List.forall_mem_cons.mpr ⟨sn_aload_n (k := 0) (by decide +kernel), ?_⟩
  refine List.forall_mem_cons.mpr ⟨sn_iconst (k := 0) (by decide +kernel) (by decide), ?_⟩
  refine List.forall_mem_cons.mpr ⟨sn_putf tyX10 (by decide +kernel) rfl tbX10 tyX10_ok nmX10 (by decide) tw_859 (Or.inl rfl) rfl, ?_⟩
  refine List.forall_mem_cons.mpr ⟨sn_aload_n (k := 0) (by decide +kernel), ?_⟩
  refine List.forall_mem_cons.mpr ⟨sn_iconst (k := 0) (by decide +kernel) (by decide), ?_⟩
  refine List.forall_mem_cons.mpr ⟨sn_putf tyX10 (by decide +kernel) rfl tbX10 tyX10_ok nmX10 (by decide) tw_860 (Or.inl rfl) rfl, ?_⟩
  refine List.forall_mem_cons.mpr ⟨⟨rfl, (by decide +kernel : decode prog_12_method_4_code 10 = .ok (.return_, 1))⟩, ?_⟩
  exact fun _ h => absurd h List.not_mem_nil
set_option maxRecDepth 20000 in
theorem ok_120 : ∀ q ∈ mt_120, mx_ok mx_I0 i_120 q.1 q.2 := by
  refine List.forall_mem_cons.mpr ⟨sn_iload_n (k := 0) (by decide +kernel), ?_⟩
  refine List.forall_mem_cons.mpr ⟨sn_iload_n (k := 1) (by decide +kernel), ?_⟩
  refine List.forall_mem_cons.mpr ⟨sn_icmp_lt (off := 12) (by decide +kernel) (by decide), ?_⟩
  refine List.forall_mem_cons.mpr ⟨sn_iload_n (k := 0) (by decide +kernel), ?_⟩
  refine List.forall_mem_cons.mpr ⟨sn_iload_n (k := 2) (by decide +kernel), ?_⟩
  refine List.forall_mem_cons.mpr ⟨sn_icmp_gt (off := 7) (by decide +kernel) (by decide), ?_⟩
  refine List.forall_mem_cons.mpr ⟨sn_iconst (k := 1) (by decide +kernel) (by decide), ?_⟩
  refine List.forall_mem_cons.mpr ⟨sn_goto (off := 4) (by decide +kernel) (by decide), ?_⟩
  refine List.forall_mem_cons.mpr ⟨sn_iconst (k := 0) (by decide +kernel) (by decide), ?_⟩
  refine List.forall_mem_cons.mpr ⟨⟨rfl, (by decide +kernel : decode prog_12_method_5_code 15 = .ok (.ireturn, 1))⟩, ?_⟩
  exact fun _ h => absurd h List.not_mem_nil
set_option maxRecDepth 20000 in
theorem ok_121 : ∀ q ∈ mt_121, mx_ok mx_I0 i_121 q.1 q.2 := by
  refine List.forall_mem_cons.mpr ⟨sn_iload_n (k := 0) (by decide +kernel), ?_⟩
  refine List.forall_mem_cons.mpr ⟨sn_table (df := 98) (offs := #[67, 67, 98, 98, 98, 98, 75, 83, 83, 90, 90, 90, 90]) (len := 67) (by decide +kernel) (by decide) (by decide), ?_⟩
  refine List.forall_mem_cons.mpr ⟨sn_iload_n (k := 1) (by decide +kernel), ?_⟩
  refine List.forall_mem_cons.mpr ⟨sn_iconst (k := 0) (by decide +kernel) (by decide), ?_⟩
  refine List.forall_mem_cons.mpr ⟨sn_bipush (k := 15) (by decide +kernel) (by decide), ?_⟩
  refine List.forall_mem_cons.mpr ⟨⟨i_120, rfl, mk_callS (by decide) (by decide) cs_120 (Or.inl tw_920) (by decide +kernel)⟩, ?_⟩
  refine List.forall_mem_cons.mpr ⟨⟨rfl, (by decide +kernel : decode prog_12_method_6_code 75 = .ok (.ireturn, 1))⟩, ?_⟩
  refine List.forall_mem_cons.mpr ⟨sn_iload_n (k := 1) (by decide +kernel), ?_⟩
  refine List.forall_mem_cons.mpr ⟨sn_iconst (k := 0) (by decide +kernel) (by decide), ?_⟩
  refine List.forall_mem_cons.mpr ⟨sn_bipush (k := 10) (by decide +kernel) (by decide), ?_⟩
  refine List.forall_mem_cons.mpr ⟨⟨i_120, rfl, mk_callS (by decide) (by decide) cs_120 (Or.inl tw_920) (by decide +kernel)⟩, ?_⟩
  refine List.forall_mem_cons.mpr ⟨⟨rfl, (by decide +kernel : decode prog_12_method_6_code 83 = .ok (.ireturn, 1))⟩, ?_⟩
  refine List.forall_mem_cons.mpr ⟨sn_iload_n (k := 1) (by decide +kernel), ?_⟩
  refine List.forall_mem_cons.mpr ⟨sn_iconst (k := 0) (by decide +kernel) (by decide), ?_⟩
  refine List.forall_mem_cons.mpr ⟨sn_iconst (k := 5) (by decide +kernel) (by decide), ?_⟩
  refine List.forall_mem_cons.mpr ⟨⟨i_120, rfl, mk_callS (by decide) (by decide) cs_120 (Or.inl tw_920) (by decide +kernel)⟩, ?_⟩
  refine List.forall_mem_cons.mpr ⟨⟨rfl, (by decide +kernel : decode prog_12_method_6_code 90 = .ok (.ireturn, 1))⟩, ?_⟩
  refine List.forall_mem_cons.mpr ⟨sn_iload_n (k := 1) (by decide +kernel), ?_⟩
  refine List.forall_mem_cons.mpr ⟨sn_iconst (k := 0) (by decide +kernel) (by decide), ?_⟩
  refine List.forall_mem_cons.mpr ⟨sn_bipush (k := 99) (by decide +kernel) (by decide), ?_⟩
  refine List.forall_mem_cons.mpr ⟨⟨i_120, rfl, mk_callS (by decide) (by decide) cs_120 (Or.inl tw_920) (by decide +kernel)⟩, ?_⟩
  refine List.forall_mem_cons.mpr ⟨⟨rfl, (by decide +kernel : decode prog_12_method_6_code 98 = .ok (.ireturn, 1))⟩, ?_⟩
  refine List.forall_mem_cons.mpr ⟨sn_iload_n (k := 0) (by decide +kernel), ?_⟩
  refine List.forall_mem_cons.mpr ⟨sn_iconst (k := 0) (by decide +kernel) (by decide), ?_⟩
  refine List.forall_mem_cons.mpr ⟨sn_bipush (k := 20) (by decide +kernel) (by decide), ?_⟩
  refine List.forall_mem_cons.mpr ⟨⟨i_120, rfl, mk_callS (by decide) (by decide) cs_120 (Or.inl tw_920) (by decide +kernel)⟩, ?_⟩
  refine List.forall_mem_cons.mpr ⟨⟨rfl, (by decide +kernel : decode prog_12_method_6_code 106 = .ok (.ireturn, 1))⟩, ?_⟩
  exact fun _ h => absurd h List.not_mem_nil
set_option maxRecDepth 20000 in
theorem ok_122 : ∀ q ∈ mt_122, mx_ok mx_I0 i_122 q.1 q.2 := by
  refine List.forall_mem_cons.mpr ⟨sn_iconst (k := 0) (by decide +kernel) (by decide), ?_⟩
  refine List.forall_mem_cons.mpr ⟨sn_istore_n (k := 2) (by decide +kernel) (by decide), ?_⟩
  refine List.forall_mem_cons.mpr ⟨sn_iload_n (k := 2) (by decide +kernel), ?_⟩
  refine List.forall_mem_cons.mpr ⟨sn_aload_n (k := 0) (by decide +kernel), ?_⟩
  refine List.forall_mem_cons.mpr ⟨sn_getf (by decide +kernel) rfl tbX10 (by decide) tw_860, ?_⟩
  refine List.forall_mem_cons.mpr ⟨sn_icmp_ge (off := 32) (by decide +kernel) (by decide), ?_⟩
  refine List.forall_mem_cons.mpr ⟨sn_aload_n (k := 0) (by decide +kernel), ?_⟩
  refine List.forall_mem_cons.mpr ⟨sn_getf (by decide +kernel) rfl tbX10 (by decide) tw_861, ?_⟩
  refine List.forall_mem_cons.mpr ⟨sn_iload_n (k := 2) (by decide +kernel), ?_⟩
  refine List.forall_mem_cons.mpr ⟨sn_iald (by decide +kernel), ?_⟩
  refine List.forall_mem_cons.mpr ⟨sn_bipush (k := 13) (by decide +kernel) (by decide), ?_⟩
  refine List.forall_mem_cons.mpr ⟨sn_icmp_ne (off := 15) (by decide +kernel) (by decide), ?_⟩
  refine List.forall_mem_cons.mpr ⟨sn_aload_n (k := 0) (by decide +kernel), ?_⟩
  refine List.forall_mem_cons.mpr ⟨sn_getf (by decide +kernel) rfl tbX10 (by decide) tw_862, ?_⟩
  refine List.forall_mem_cons.mpr ⟨sn_iload_n (k := 2) (by decide +kernel), ?_⟩
  refine List.forall_mem_cons.mpr ⟨sn_iald (by decide +kernel), ?_⟩
  refine List.forall_mem_cons.mpr ⟨sn_iload_n (k := 1) (by decide +kernel), ?_⟩
  refine List.forall_mem_cons.mpr ⟨sn_icmp_ne (off := 5) (by decide +kernel) (by decide), ?_⟩
  refine List.forall_mem_cons.mpr ⟨sn_iload_n (k := 2) (by decide +kernel), ?_⟩
  refine List.forall_mem_cons.mpr ⟨⟨rfl, (by decide +kernel : decode prog_12_method_7_code 32 = .ok (.ireturn, 1))⟩, ?_⟩
  refine List.forall_mem_cons.mpr ⟨sn_iinc (d := 1) (by decide +kernel) (by decide) (by decide), ?_⟩
  refine List.forall_mem_cons.mpr ⟨sn_goto (off := (-34)) (by decide +kernel) (by decide), ?_⟩
  refine List.forall_mem_cons.mpr ⟨sn_iconst (k := (-1)) (by decide +kernel) (by decide), ?_⟩
  refine List.forall_mem_cons.mpr ⟨⟨rfl, (by decide +kernel : decode prog_12_method_7_code 40 = .ok (.ireturn, 1))⟩, ?_⟩
  exact fun _ h => absurd h List.not_mem_nil
set_option maxRecDepth 20000 in
theorem ok_123 : ∀ q ∈ mt_123, mx_ok mx_I0 i_123 q.1 q.2 := by
  refine List.forall_mem_cons.mpr ⟨sn_iconst (k := 1) (by decide +kernel) (by decide), ?_⟩
  refine List.forall_mem_cons.mpr ⟨sn_istore_n (k := 1) (by decide +kernel) (by decide), ?_⟩
  refine List.forall_mem_cons.mpr ⟨sn_iconst (k := 0) (by decide +kernel) (by decide), ?_⟩
  refine List.forall_mem_cons.mpr ⟨sn_istore_n (k := 2) (by decide +kernel) (by decide), ?_⟩
  refine List.forall_mem_cons.mpr ⟨sn_iload_n (k := 2) (by decide +kernel), ?_⟩
  refine List.forall_mem_cons.mpr ⟨sn_aload_n (k := 0) (by decide +kernel), ?_⟩
  refine List.forall_mem_cons.mpr ⟨sn_getf (by decide +kernel) rfl tbX10 (by decide) tw_860, ?_⟩
  refine List.forall_mem_cons.mpr ⟨sn_icmp_ge (off := 144) (by decide +kernel) (by decide), ?_⟩
  refine List.forall_mem_cons.mpr ⟨sn_aload_n (k := 0) (by decide +kernel), ?_⟩
  refine List.forall_mem_cons.mpr ⟨sn_getf (by decide +kernel) rfl tbX10 (by decide) tw_861, ?_⟩
  refine List.forall_mem_cons.mpr ⟨sn_iload_n (k := 2) (by decide +kernel), ?_⟩
  refine List.forall_mem_cons.mpr ⟨sn_iald (by decide +kernel), ?_⟩
  refine List.forall_mem_cons.mpr ⟨sn_istore_n (k := 3) (by decide +kernel) (by decide), ?_⟩
  refine List.forall_mem_cons.mpr ⟨sn_iload_n (k := 1) (by decide +kernel), ?_⟩
  refine List.forall_mem_cons.mpr ⟨sn_if_eq (off := 20) (by decide +kernel) (by decide), ?_⟩
  refine List.forall_mem_cons.mpr ⟨sn_iload_n (k := 3) (by decide +kernel), ?_⟩
  refine List.forall_mem_cons.mpr ⟨sn_aload_n (k := 0) (by decide +kernel), ?_⟩
  refine List.forall_mem_cons.mpr ⟨sn_getf (by decide +kernel) rfl tbX10 (by decide) tw_862, ?_⟩
  refine List.forall_mem_cons.mpr ⟨sn_iload_n (k := 2) (by decide +kernel), ?_⟩
  refine List.forall_mem_cons.mpr ⟨sn_iald (by decide +kernel), ?_⟩
  refine List.forall_mem_cons.mpr ⟨⟨i_121, rfl, mk_callS (by decide) (by decide) cs_121 (Or.inl tw_917) (by decide +kernel)⟩, ?_⟩
  refine List.forall_mem_cons.mpr ⟨sn_if_eq (off := 7) (by decide +kernel) (by decide), ?_⟩
  refine List.forall_mem_cons.mpr ⟨sn_iconst (k := 1) (by decide +kernel) (by decide), ?_⟩
  refine List.forall_mem_cons.mpr ⟨sn_goto (off := 4) (by decide +kernel) (by decide), ?_⟩
  refine List.forall_mem_cons.mpr ⟨sn_iconst (k := 0) (by decide +kernel) (by decide), ?_⟩
  refine List.forall_mem_cons.mpr ⟨sn_istore_n (k := 1) (by decide +kernel) (by decide), ?_⟩
  refine List.forall_mem_cons.mpr ⟨sn_iload_n (k := 1) (by decide +kernel), ?_⟩
  refine List.forall_mem_cons.mpr ⟨sn_if_eq (off := 27) (by decide +kernel) (by decide), ?_⟩
  refine List.forall_mem_cons.mpr ⟨sn_iload_n (k := 3) (by decide +kernel), ?_⟩
  refine List.forall_mem_cons.mpr ⟨sn_bipush (k := 13) (by decide +kernel) (by decide), ?_⟩
  refine List.forall_mem_cons.mpr ⟨sn_icmp_ne (off := 17) (by decide +kernel) (by decide), ?_⟩
  refine List.forall_mem_cons.mpr ⟨sn_aload_n (k := 0) (by decide +kernel), ?_⟩
  refine List.forall_mem_cons.mpr ⟨sn_aload_n (k := 0) (by decide +kernel), ?_⟩
  refine List.forall_mem_cons.mpr ⟨sn_getf (by decide +kernel) rfl tbX10 (by decide) tw_862, ?_⟩
  refine List.forall_mem_cons.mpr ⟨sn_iload_n (k := 2) (by decide +kernel), ?_⟩
  refine List.forall_mem_cons.mpr ⟨sn_iald (by decide +kernel), ?_⟩
  refine List.forall_mem_cons.mpr ⟨⟨i_122, rfl, mk_callV (by decide) (by decide) cv_122 (Or.inl tw_923) rfl (by decide +kernel)⟩, ?_⟩
  refine List.forall_mem_cons.mpr ⟨sn_iload_n (k := 2) (by decide +kernel), ?_⟩
  refine List.forall_mem_cons.mpr ⟨sn_icmp_ne (off := 7) (by decide +kernel) (by decide), ?_⟩
  refine List.forall_mem_cons.mpr ⟨sn_iconst (k := 1) (by decide +kernel) (by decide), ?_⟩
  refine List.forall_mem_cons.mpr ⟨sn_goto (off := 4) (by decide +kernel) (by decide), ?_⟩
  refine List.forall_mem_cons.mpr ⟨sn_iconst (k := 0) (by decide +kernel) (by decide), ?_⟩
  refine List.forall_mem_cons.mpr ⟨sn_istore_n (k := 1) (by decide +kernel) (by decide), ?_⟩
  refine List.forall_mem_cons.mpr ⟨sn_iload_n (k := 1) (by decide +kernel), ?_⟩
  refine List.forall_mem_cons.mpr ⟨sn_if_eq (off := 33) (by decide +kernel) (by decide), ?_⟩
  refine List.forall_mem_cons.mpr ⟨sn_iload_n (k := 3) (by decide +kernel), ?_⟩
  refine List.forall_mem_cons.mpr ⟨sn_bipush (k := 10) (by decide +kernel) (by decide), ?_⟩
  refine List.forall_mem_cons.mpr ⟨sn_icmp_lt (off := 23) (by decide +kernel) (by decide), ?_⟩
  refine List.forall_mem_cons.mpr ⟨sn_iload_n (k := 3) (by decide +kernel), ?_⟩
  refine List.forall_mem_cons.mpr ⟨sn_bipush (k := 12) (by decide +kernel) (by decide), ?_⟩
  refine List.forall_mem_cons.mpr ⟨sn_icmp_gt (off := 17) (by decide +kernel) (by decide), ?_⟩
  refine List.forall_mem_cons.mpr ⟨sn_aload_n (k := 0) (by decide +kernel), ?_⟩
  refine List.forall_mem_cons.mpr ⟨sn_aload_n (k := 0) (by decide +kernel), ?_⟩
  refine List.forall_mem_cons.mpr ⟨sn_getf (by decide +kernel) rfl tbX10 (by decide) tw_862, ?_⟩
  refine List.forall_mem_cons.mpr ⟨sn_iload_n (k := 2) (by decide +kernel), ?_⟩
  refine List.forall_mem_cons.mpr ⟨sn_iald (by decide +kernel), ?_⟩
  refine List.forall_mem_cons.mpr ⟨⟨i_122, rfl, mk_callV (by decide) (by decide) cv_122 (Or.inl tw_923) rfl (by decide +kernel)⟩, ?_⟩
  refine List.forall_mem_cons.mpr ⟨sn_iconst (k := (-1)) (by decide +kernel) (by decide), ?_⟩
  refine List.forall_mem_cons.mpr ⟨sn_icmp_eq (off := 7) (by decide +kernel) (by decide), ?_⟩
  refine List.forall_mem_cons.mpr ⟨sn_iconst (k := 1) (by decide +kernel) (by decide), ?_⟩
  refine List.forall_mem_cons.mpr ⟨sn_goto (off := 4) (by decide +kernel) (by decide), ?_⟩
  refine List.forall_mem_cons.mpr ⟨sn_iconst (k := 0) (by decide +kernel) (by decide), ?_⟩
  refine List.forall_mem_cons.mpr ⟨sn_istore_n (k := 1) (by decide +kernel) (by decide), ?_⟩
  refine List.forall_mem_cons.mpr ⟨sn_iload_n (k := 1) (by decide +kernel), ?_⟩
  refine List.forall_mem_cons.mpr ⟨sn_if_eq (off := 36) (by decide +kernel) (by decide), ?_⟩
  refine List.forall_mem_cons.mpr ⟨sn_iload_n (k := 3) (by decide +kernel), ?_⟩
  refine List.forall_mem_cons.mpr ⟨sn_bipush (k := 18) (by decide +kernel) (by decide), ?_⟩
  refine List.forall_mem_cons.mpr ⟨sn_icmp_ne (off := 26) (by decide +kernel) (by decide), ?_⟩
  refine List.forall_mem_cons.mpr ⟨sn_iload_n (k := 2) (by decide +kernel), ?_⟩
  refine List.forall_mem_cons.mpr ⟨sn_iconst (k := 1) (by decide +kernel) (by decide), ?_⟩
  refine List.forall_mem_cons.mpr ⟨sn_iadd (by decide +kernel), ?_⟩
  refine List.forall_mem_cons.mpr ⟨sn_aload_n (k := 0) (by decide +kernel), ?_⟩
  refine List.forall_mem_cons.mpr ⟨sn_getf (by decide +kernel) rfl tbX10 (by decide) tw_860, ?_⟩
  refine List.forall_mem_cons.mpr ⟨sn_icmp_ge (off := 20) (by decide +kernel) (by decide), ?_⟩
  refine List.forall_mem_cons.mpr ⟨sn_aload_n (k := 0) (by decide +kernel), ?_⟩
  refine List.forall_mem_cons.mpr ⟨sn_getf (by decide +kernel) rfl tbX10 (by decide) tw_861, ?_⟩
  refine List.forall_mem_cons.mpr ⟨sn_iload_n (k := 2) (by decide +kernel), ?_⟩
  refine List.forall_mem_cons.mpr ⟨sn_iconst (k := 1) (by decide +kernel) (by decide), ?_⟩
  refine List.forall_mem_cons.mpr ⟨sn_iadd (by decide +kernel), ?_⟩
  refine List.forall_mem_cons.mpr ⟨sn_iald (by decide +kernel), ?_⟩
  refine List.forall_mem_cons.mpr ⟨sn_bipush (k := 12) (by decide +kernel) (by decide), ?_⟩
  refine List.forall_mem_cons.mpr ⟨sn_icmp_ne (off := 7) (by decide +kernel) (by decide), ?_⟩
  refine List.forall_mem_cons.mpr ⟨sn_iconst (k := 1) (by decide +kernel) (by decide), ?_⟩
  refine List.forall_mem_cons.mpr ⟨sn_goto (off := 4) (by decide +kernel) (by decide), ?_⟩
  refine List.forall_mem_cons.mpr ⟨sn_iconst (k := 0) (by decide +kernel) (by decide), ?_⟩
  refine List.forall_mem_cons.mpr ⟨sn_istore_n (k := 1) (by decide +kernel) (by decide), ?_⟩
  refine List.forall_mem_cons.mpr ⟨sn_iinc (d := 1) (by decide +kernel) (by decide) (by decide), ?_⟩
  refine List.forall_mem_cons.mpr ⟨sn_goto (off := (-146)) (by decide +kernel) (by decide), ?_⟩
  refine List.forall_mem_cons.mpr ⟨sn_iload_n (k := 1) (by decide +kernel), ?_⟩
  refine List.forall_mem_cons.mpr ⟨⟨rfl, (by decide +kernel : decode prog_12_method_8_code 154 = .ok (.ireturn, 1))⟩, ?_⟩
  exact fun _ h => absurd h List.not_mem_nil
set_option maxRecDepth 20000 in
theorem ok_124 : ∀ q ∈ mt_124, mx_ok mx_I0 i_124 q.1 q.2 := by
  refine List.forall_mem_cons.mpr ⟨sn_iload_n (k := 0) (by decide +kernel), ?_⟩
  refine List.forall_mem_cons.mpr ⟨sn_table (df := 97) (offs := #[91, 91, 93, 91, 91, 93, 93, 93, 97, 91, 91, 97, 91, 97, 91, 97, 91, 93, 95]) (len := 91) (by decide +kernel) (by decide) (by decide), ?_⟩
  refine List.forall_mem_cons.mpr ⟨sn_iconst (k := 1) (by decide +kernel) (by decide), ?_⟩
  refine List.forall_mem_cons.mpr ⟨⟨rfl, (by decide +kernel : decode prog_12_method_9_code 93 = .ok (.ireturn, 1))⟩, ?_⟩
  refine List.forall_mem_cons.mpr ⟨sn_iconst (k := 2) (by decide +kernel) (by decide), ?_⟩
  refine List.forall_mem_cons.mpr ⟨⟨rfl, (by decide +kernel : decode prog_12_method_9_code 95 = .ok (.ireturn, 1))⟩, ?_⟩
  refine List.forall_mem_cons.mpr ⟨sn_iconst (k := 3) (by decide +kernel) (by decide), ?_⟩
  refine List.forall_mem_cons.mpr ⟨⟨rfl, (by decide +kernel : decode prog_12_method_9_code 97 = .ok (.ireturn, 1))⟩, ?_⟩
  refine List.forall_mem_cons.mpr ⟨sn_iconst (k := 0) (by decide +kernel) (by decide), ?_⟩
  refine List.forall_mem_cons.mpr ⟨⟨rfl, (by decide +kernel : decode prog_12_method_9_code 99 = .ok (.ireturn, 1))⟩, ?_⟩
  exact fun _ h => absurd h List.not_mem_nil
