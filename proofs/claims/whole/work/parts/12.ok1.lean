set_option maxRecDepth 20000 in
theorem ok_41 : ∀ q ∈ mt_41, mx_ok mx_I0 i_41 q.1 q.2 := by
  refine List.forall_mem_cons.mpr ⟨sn_aload_n (k := 0) (by decide +kernel), ?_⟩
  refine List.forall_mem_cons.mpr ⟨sn_iconst (k := 0) (by decide +kernel) (by decide), ?_⟩
  refine List.forall_mem_cons.mpr ⟨sn_putf tyX4 (by decide +kernel) rfl tbX4 tyX4_ok nmX4 (by decide) tw_263 (Or.inl rfl) rfl, ?_⟩
  refine List.forall_mem_cons.mpr ⟨sn_aload_n (k := 0) (by decide +kernel), ?_⟩
  refine List.forall_mem_cons.mpr ⟨sn_iconst (k := 0) (by decide +kernel) (by decide), ?_⟩
  refine List.forall_mem_cons.mpr ⟨sn_putf tyX4 (by decide +kernel) rfl tbX4 tyX4_ok nmX4 (by decide) tw_265 (Or.inl rfl) rfl, ?_⟩
  refine List.forall_mem_cons.mpr ⟨sn_aload_n (k := 0) (by decide +kernel), ?_⟩
  refine List.forall_mem_cons.mpr ⟨sn_iload_n (k := 2) (by decide +kernel), ?_⟩
  refine List.forall_mem_cons.mpr ⟨sn_putf tyX4 (by decide +kernel) rfl tbX4 tyX4_ok nmX4 (by decide) tw_267 (Or.inl rfl) rfl, ?_⟩
  refine List.forall_mem_cons.mpr ⟨sn_aload_n (k := 0) (by decide +kernel), ?_⟩
  refine List.forall_mem_cons.mpr ⟨sn_iconst (k := (-1)) (by decide +kernel) (by decide), ?_⟩
  refine List.forall_mem_cons.mpr ⟨sn_putf tyX4 (by decide +kernel) rfl tbX4 tyX4_ok nmX4 (by decide) tw_264 (Or.inl rfl) rfl, ?_⟩
  refine List.forall_mem_cons.mpr ⟨sn_iload_n (k := 2) (by decide +kernel), ?_⟩
  refine List.forall_mem_cons.mpr ⟨sn_iconst (k := 2) (by decide +kernel) (by decide), ?_⟩
  refine List.forall_mem_cons.mpr ⟨sn_iadd (by decide +kernel), ?_⟩
  refine List.forall_mem_cons.mpr ⟨sn_aload_n (k := 1) (by decide +kernel), ?_⟩
  refine List.forall_mem_cons.mpr ⟨⟨i_37, rfl, mk_callV (by decide) (by decide) cv_37 (Or.inl tw_659) rfl (by decide +kernel)⟩, ?_⟩
  refine List.forall_mem_cons.mpr ⟨sn_iconst (k := 1) (by decide +kernel) (by decide), ?_⟩
  refine List.forall_mem_cons.mpr ⟨sn_iadd (by decide +kernel), ?_⟩
  refine List.forall_mem_cons.mpr ⟨sn_imul (by decide +kernel), ?_⟩
  refine List.forall_mem_cons.mpr ⟨sn_istore_n (k := 3) (by decide +kernel) (by decide), ?_⟩
  refine List.forall_mem_cons.mpr ⟨sn_iconst (k := 0) (by decide +kernel) (by decide), ?_⟩
  refine List.forall_mem_cons.mpr ⟨sn_istore (k := 4) (by decide +kernel) (by decide), ?_⟩
  refine List.forall_mem_cons.mpr ⟨sn_iload (k := 4) (by decide +kernel), ?_⟩
  refine List.forall_mem_cons.mpr ⟨sn_iload_n (k := 3) (by decide +kernel), ?_⟩
  refine List.forall_mem_cons.mpr ⟨sn_icmp_ge (off := 98) (by decide +kernel) (by decide), ?_⟩
  refine List.forall_mem_cons.mpr ⟨sn_aload_n (k := 0) (by decide +kernel), ?_⟩
  refine List.forall_mem_cons.mpr ⟨sn_getf (by decide +kernel) rfl tbX4 (by decide) tw_264, ?_⟩
  refine List.forall_mem_cons.mpr ⟨sn_iconst (k := (-1)) (by decide +kernel) (by decide), ?_⟩
  refine List.forall_mem_cons.mpr ⟨sn_icmp_ne (off := 90) (by decide +kernel) (by decide), ?_⟩
  refine List.forall_mem_cons.mpr ⟨sn_aload_n (k := 1) (by decide +kernel), ?_⟩
  refine List.forall_mem_cons.mpr ⟨sn_aload_n (k := 0) (by decide +kernel), ?_⟩
  refine List.forall_mem_cons.mpr ⟨sn_getf (by decide +kernel) rfl tbX4 (by decide) tw_263, ?_⟩
  refine List.forall_mem_cons.mpr ⟨⟨i_38, rfl, mk_callV (by decide) (by decide) cv_38 (Or.inl tw_663) rfl (by decide +kernel)⟩, ?_⟩
  refine List.forall_mem_cons.mpr ⟨sn_istore (k := 5) (by decide +kernel) (by decide), ?_⟩
  refine List.forall_mem_cons.mpr ⟨sn_aload_n (k := 1) (by decide +kernel), ?_⟩
  refine List.forall_mem_cons.mpr ⟨sn_aload_n (k := 0) (by decide +kernel), ?_⟩
  refine List.forall_mem_cons.mpr ⟨sn_getf (by decide +kernel) rfl tbX4 (by decide) tw_263, ?_⟩
  refine List.forall_mem_cons.mpr ⟨⟨i_39, rfl, mk_callV (by decide) (by decide) cv_39 (Or.inl tw_667) rfl (by decide +kernel)⟩, ?_⟩
  refine List.forall_mem_cons.mpr ⟨sn_istore (k := 6) (by decide +kernel) (by decide), ?_⟩
  refine List.forall_mem_cons.mpr ⟨sn_aload_n (k := 0) (by decide +kernel), ?_⟩
  refine List.forall_mem_cons.mpr ⟨sn_dup (by decide +kernel), ?_⟩
  refine List.forall_mem_cons.mpr ⟨sn_getf (by decide +kernel) rfl tbX4 (by decide) tw_263, ?_⟩
  refine List.forall_mem_cons.mpr ⟨sn_iconst (k := 1) (by decide +kernel) (by decide), ?_⟩
  refine List.forall_mem_cons.mpr ⟨sn_iadd (by decide +kernel), ?_⟩
  refine List.forall_mem_cons.mpr ⟨sn_putf tyX4 (by decide +kernel) rfl tbX4 tyX4_ok nmX4 (by decide) tw_263 (Or.inl rfl) rfl, ?_⟩
  refine List.forall_mem_cons.mpr ⟨sn_iload (k := 5) (by decide +kernel), ?_⟩
  refine List.forall_mem_cons.mpr ⟨sn_bipush (k := 7) (by decide +kernel) (by decide), ?_⟩
  refine List.forall_mem_cons.mpr ⟨sn_icmp_ge (off := 14) (by decide +kernel) (by decide), ?_⟩
  refine List.forall_mem_cons.mpr ⟨sn_aload_n (k := 0) (by decide +kernel), ?_⟩
  refine List.forall_mem_cons.mpr ⟨sn_iload (k := 5) (by decide +kernel), ?_⟩
  refine List.forall_mem_cons.mpr ⟨sn_iload (k := 6) (by decide +kernel), ?_⟩
  refine List.forall_mem_cons.mpr ⟨⟨i_42, rfl, mk_callV (by decide) (by decide) cv_42 (Or.inl tw_671) rfl (by decide +kernel)⟩, ?_⟩
  refine List.forall_mem_cons.mpr ⟨sn_goto (off := 36) (by decide +kernel) (by decide), ?_⟩
  refine List.forall_mem_cons.mpr ⟨sn_iload (k := 5) (by decide +kernel), ?_⟩
  refine List.forall_mem_cons.mpr ⟨sn_bipush (k := 20) (by decide +kernel) (by decide), ?_⟩
  refine List.forall_mem_cons.mpr ⟨sn_icmp_ge (off := 14) (by decide +kernel) (by decide), ?_⟩
  refine List.forall_mem_cons.mpr ⟨sn_aload_n (k := 0) (by decide +kernel), ?_⟩
  refine List.forall_mem_cons.mpr ⟨sn_iload (k := 5) (by decide +kernel), ?_⟩
  refine List.forall_mem_cons.mpr ⟨sn_iload (k := 6) (by decide +kernel), ?_⟩
  refine List.forall_mem_cons.mpr ⟨⟨i_44, rfl, mk_callV (by decide) (by decide) cv_44 (Or.inl tw_684) rfl (by decide +kernel)⟩, ?_⟩
  refine List.forall_mem_cons.mpr ⟨sn_goto (off := 18) (by decide +kernel) (by decide), ?_⟩
  refine List.forall_mem_cons.mpr ⟨sn_aload_n (k := 0) (by decide +kernel), ?_⟩
  refine List.forall_mem_cons.mpr ⟨sn_iload (k := 5) (by decide +kernel), ?_⟩
  refine List.forall_mem_cons.mpr ⟨⟨i_43, rfl, mk_callV (by decide) (by decide) cv_43 (Or.inl tw_744) rfl (by decide +kernel)⟩, ?_⟩
  refine List.forall_mem_cons.mpr ⟨sn_if_eq (off := 9) (by decide +kernel) (by decide), ?_⟩
  refine List.forall_mem_cons.mpr ⟨sn_aload_n (k := 0) (by decide +kernel), ?_⟩
  refine List.forall_mem_cons.mpr ⟨sn_iload (k := 6) (by decide +kernel), ?_⟩
  refine List.forall_mem_cons.mpr ⟨sn_putf tyX4 (by decide +kernel) rfl tbX4 tyX4_ok nmX4 (by decide) tw_263 (Or.inl rfl) rfl, ?_⟩
  refine List.forall_mem_cons.mpr ⟨sn_iinc (d := 1) (by decide +kernel) (by decide) (by decide), ?_⟩
  refine List.forall_mem_cons.mpr ⟨sn_goto (off := (-98)) (by decide +kernel) (by decide), ?_⟩
  refine List.forall_mem_cons.mpr ⟨sn_aload_n (k := 0) (by decide +kernel), ?_⟩
  refine List.forall_mem_cons.mpr ⟨sn_getf (by decide +kernel) rfl tbX4 (by decide) tw_264, ?_⟩
  refine List.forall_mem_cons.mpr ⟨⟨rfl, (by decide +kernel : decode prog_6_method_2_code 139 = .ok (.ireturn, 1))⟩, ?_⟩
  exact fun _ h => absurd h List.not_mem_nil
set_option maxRecDepth 20000 in
theorem ok_42 : ∀ q ∈ mt_42, mx_ok mx_I0 i_42 q.1 q.2 := by
  refine List.forall_mem_cons.mpr ⟨sn_aload_n (k := 0) (by decide +kernel), ?_⟩
  refine List.forall_mem_cons.mpr ⟨sn_getf (by decide +kernel) rfl tbX4 (by decide) tw_261, ?_⟩
  refine List.forall_mem_cons.mpr ⟨sn_istore_n (k := 3) (by decide +kernel) (by decide), ?_⟩
  refine List.forall_mem_cons.mpr ⟨sn_iload_n (k := 1) (by decide +kernel), ?_⟩
  refine List.forall_mem_cons.mpr ⟨sn_table (df := 137) (offs := #[38, 51, 71, 91, 106, 121]) (len := 38) (by decide +kernel) (by decide) (by decide), ?_⟩
  refine List.forall_mem_cons.mpr ⟨sn_aload_n (k := 0) (by decide +kernel), ?_⟩
  refine List.forall_mem_cons.mpr ⟨sn_iload_n (k := 2) (by decide +kernel), ?_⟩
  refine List.forall_mem_cons.mpr ⟨sn_putf tyX4 (by decide +kernel) rfl tbX4 tyX4_ok nmX4 (by decide) tw_261 (Or.inl rfl) rfl, ?_⟩
  refine List.forall_mem_cons.mpr ⟨sn_aload_n (k := 0) (by decide +kernel), ?_⟩
  refine List.forall_mem_cons.mpr ⟨sn_iload_n (k := 3) (by decide +kernel), ?_⟩
  refine List.forall_mem_cons.mpr ⟨sn_putf tyX4 (by decide +kernel) rfl tbX4 tyX4_ok nmX4 (by decide) tw_262 (Or.inl rfl) rfl, ?_⟩
  refine List.forall_mem_cons.mpr ⟨sn_goto (off := 89) (by decide +kernel) (by decide), ?_⟩
  refine List.forall_mem_cons.mpr ⟨sn_aload_n (k := 0) (by decide +kernel), ?_⟩
  refine List.forall_mem_cons.mpr ⟨sn_aload_n (k := 0) (by decide +kernel), ?_⟩
  refine List.forall_mem_cons.mpr ⟨sn_getf (by decide +kernel) rfl tbX4 (by decide) tw_259, ?_⟩
  refine List.forall_mem_cons.mpr ⟨sn_iload_n (k := 2) (by decide +kernel), ?_⟩
  refine List.forall_mem_cons.mpr ⟨⟨i_20, rfl, mk_callV (by decide) (by decide) cv_20 (Or.inl tw_675) rfl (by decide +kernel)⟩, ?_⟩
  refine List.forall_mem_cons.mpr ⟨sn_putf tyX4 (by decide +kernel) rfl tbX4 tyX4_ok nmX4 (by decide) tw_261 (Or.inl rfl) rfl, ?_⟩
  refine List.forall_mem_cons.mpr ⟨sn_aload_n (k := 0) (by decide +kernel), ?_⟩
  refine List.forall_mem_cons.mpr ⟨sn_iload_n (k := 3) (by decide +kernel), ?_⟩
  refine List.forall_mem_cons.mpr ⟨sn_putf tyX4 (by decide +kernel) rfl tbX4 tyX4_ok nmX4 (by decide) tw_262 (Or.inl rfl) rfl, ?_⟩
  refine List.forall_mem_cons.mpr ⟨sn_goto (off := 69) (by decide +kernel) (by decide), ?_⟩
  refine List.forall_mem_cons.mpr ⟨sn_aload_n (k := 0) (by decide +kernel), ?_⟩
  refine List.forall_mem_cons.mpr ⟨sn_aload_n (k := 0) (by decide +kernel), ?_⟩
  refine List.forall_mem_cons.mpr ⟨sn_getf (by decide +kernel) rfl tbX4 (by decide) tw_260, ?_⟩
  refine List.forall_mem_cons.mpr ⟨sn_iload_n (k := 2) (by decide +kernel), ?_⟩
  refine List.forall_mem_cons.mpr ⟨⟨i_3, rfl, mk_callV (by decide) (by decide) cv_3 (Or.inl tw_682) rfl (by decide +kernel)⟩, ?_⟩
  refine List.forall_mem_cons.mpr ⟨sn_putf tyX4 (by decide +kernel) rfl tbX4 tyX4_ok nmX4 (by decide) tw_261 (Or.inl rfl) rfl, ?_⟩
  refine List.forall_mem_cons.mpr ⟨sn_aload_n (k := 0) (by decide +kernel), ?_⟩
  refine List.forall_mem_cons.mpr ⟨sn_iload_n (k := 3) (by decide +kernel), ?_⟩
  refine List.forall_mem_cons.mpr ⟨sn_putf tyX4 (by decide +kernel) rfl tbX4 tyX4_ok nmX4 (by decide) tw_262 (Or.inl rfl) rfl, ?_⟩
  refine List.forall_mem_cons.mpr ⟨sn_goto (off := 49) (by decide +kernel) (by decide), ?_⟩
  refine List.forall_mem_cons.mpr ⟨sn_aload_n (k := 0) (by decide +kernel), ?_⟩
  refine List.forall_mem_cons.mpr ⟨sn_getf (by decide +kernel) rfl tbX4 (by decide) tw_260, ?_⟩
  refine List.forall_mem_cons.mpr ⟨sn_iload_n (k := 2) (by decide +kernel), ?_⟩
  refine List.forall_mem_cons.mpr ⟨sn_aload_n (k := 0) (by decide +kernel), ?_⟩
  refine List.forall_mem_cons.mpr ⟨sn_getf (by decide +kernel) rfl tbX4 (by decide) tw_261, ?_⟩
  refine List.forall_mem_cons.mpr ⟨⟨i_4, rfl, mk_callV (by decide) (by decide) cv_4 (Or.inl tw_683) rfl (by decide +kernel)⟩, ?_⟩
  refine List.forall_mem_cons.mpr ⟨sn_goto (off := 34) (by decide +kernel) (by decide), ?_⟩
  refine List.forall_mem_cons.mpr ⟨sn_aload_n (k := 0) (by decide +kernel), ?_⟩
  refine List.forall_mem_cons.mpr ⟨sn_getf (by decide +kernel) rfl tbX4 (by decide) tw_260, ?_⟩
  refine List.forall_mem_cons.mpr ⟨sn_iload_n (k := 2) (by decide +kernel), ?_⟩
  refine List.forall_mem_cons.mpr ⟨sn_aload_n (k := 0) (by decide +kernel), ?_⟩
  refine List.forall_mem_cons.mpr ⟨sn_getf (by decide +kernel) rfl tbX4 (by decide) tw_262, ?_⟩
  refine List.forall_mem_cons.mpr ⟨⟨i_4, rfl, mk_callV (by decide) (by decide) cv_4 (Or.inl tw_683) rfl (by decide +kernel)⟩, ?_⟩
  refine List.forall_mem_cons.mpr ⟨sn_goto (off := 19) (by decide +kernel) (by decide), ?_⟩
  refine List.forall_mem_cons.mpr ⟨sn_aload_n (k := 0) (by decide +kernel), ?_⟩
  refine List.forall_mem_cons.mpr ⟨sn_aload_n (k := 0) (by decide +kernel), ?_⟩
  refine List.forall_mem_cons.mpr ⟨sn_getf (by decide +kernel) rfl tbX4 (by decide) tw_262, ?_⟩
  refine List.forall_mem_cons.mpr ⟨sn_putf tyX4 (by decide +kernel) rfl tbX4 tyX4_ok nmX4 (by decide) tw_261 (Or.inl rfl) rfl, ?_⟩
  refine List.forall_mem_cons.mpr ⟨sn_aload_n (k := 0) (by decide +kernel), ?_⟩
  refine List.forall_mem_cons.mpr ⟨sn_iload_n (k := 3) (by decide +kernel), ?_⟩
  refine List.forall_mem_cons.mpr ⟨sn_putf tyX4 (by decide +kernel) rfl tbX4 tyX4_ok nmX4 (by decide) tw_262 (Or.inl rfl) rfl, ?_⟩
  refine List.forall_mem_cons.mpr ⟨sn_goto (off := 3) (by decide +kernel) (by decide), ?_⟩
  refine List.forall_mem_cons.mpr ⟨⟨rfl, (by decide +kernel : decode prog_6_method_3_code 143 = .ok (.return_, 1))⟩, ?_⟩
  exact fun _ h => absurd h List.not_mem_nil
set_option maxRecDepth 20000 in
theorem ok_43 : ∀ q ∈ mt_43, mx_ok mx_I0 i_43 q.1 q.2 := by
  refine List.forall_mem_cons.mpr ⟨sn_iload_n (k := 1) (by decide +kernel), ?_⟩
  refine List.forall_mem_cons.mpr ⟨sn_table (df := 55) (offs := #[27, 29, 42]) (len := 27) (by decide +kernel) (by decide) (by decide), ?_⟩
  refine List.forall_mem_cons.mpr ⟨sn_iconst (k := 1) (by decide +kernel) (by decide), ?_⟩
  refine List.forall_mem_cons.mpr ⟨⟨rfl, (by decide +kernel : decode prog_6_method_4_code 29 = .ok (.ireturn, 1))⟩, ?_⟩
  refine List.forall_mem_cons.mpr ⟨sn_aload_n (k := 0) (by decide +kernel), ?_⟩
  refine List.forall_mem_cons.mpr ⟨sn_getf (by decide +kernel) rfl tbX4 (by decide) tw_261, ?_⟩
  refine List.forall_mem_cons.mpr ⟨sn_if_ne (off := 7) (by decide +kernel) (by decide), ?_⟩
  refine List.forall_mem_cons.mpr ⟨sn_iconst (k := 1) (by decide +kernel) (by decide), ?_⟩
  refine List.forall_mem_cons.mpr ⟨sn_goto (off := 4) (by decide +kernel) (by decide), ?_⟩
  refine List.forall_mem_cons.mpr ⟨sn_iconst (k := 0) (by decide +kernel) (by decide), ?_⟩
  refine List.forall_mem_cons.mpr ⟨⟨rfl, (by decide +kernel : decode prog_6_method_4_code 42 = .ok (.ireturn, 1))⟩, ?_⟩
  refine List.forall_mem_cons.mpr ⟨sn_aload_n (k := 0) (by decide +kernel), ?_⟩
  refine List.forall_mem_cons.mpr ⟨sn_getf (by decide +kernel) rfl tbX4 (by decide) tw_261, ?_⟩
  refine List.forall_mem_cons.mpr ⟨sn_if_eq (off := 7) (by decide +kernel) (by decide), ?_⟩
  refine List.forall_mem_cons.mpr ⟨sn_iconst (k := 1) (by decide +kernel) (by decide), ?_⟩
  refine List.forall_mem_cons.mpr ⟨sn_goto (off := 4) (by decide +kernel) (by decide), ?_⟩
  refine List.forall_mem_cons.mpr ⟨sn_iconst (k := 0) (by decide +kernel) (by decide), ?_⟩
  refine List.forall_mem_cons.mpr ⟨⟨rfl, (by decide +kernel : decode prog_6_method_4_code 55 = .ok (.ireturn, 1))⟩, ?_⟩
  refine List.forall_mem_cons.mpr ⟨sn_iload_n (k := 1) (by decide +kernel), ?_⟩
  refine List.forall_mem_cons.mpr ⟨sn_bipush (k := 23) (by decide +kernel) (by decide), ?_⟩
  refine List.forall_mem_cons.mpr ⟨sn_isub (by decide +kernel), ?_⟩
  refine List.forall_mem_cons.mpr ⟨sn_aload_n (k := 0) (by decide +kernel), ?_⟩
  refine List.forall_mem_cons.mpr ⟨sn_getf (by decide +kernel) rfl tbX4 (by decide) tw_262, ?_⟩
  refine List.forall_mem_cons.mpr ⟨sn_aload_n (k := 0) (by decide +kernel), ?_⟩
  refine List.forall_mem_cons.mpr ⟨sn_getf (by decide +kernel) rfl tbX4 (by decide) tw_261, ?_⟩
  refine List.forall_mem_cons.mpr ⟨⟨i_13, rfl, mk_callS (by decide) (by decide) cs_13 (Or.inl tw_748) (by decide +kernel)⟩, ?_⟩
  refine List.forall_mem_cons.mpr ⟨⟨rfl, (by decide +kernel : decode prog_6_method_4_code 71 = .ok (.ireturn, 1))⟩, ?_⟩
  exact fun _ h => absurd h List.not_mem_nil
set_option maxRecDepth 20000 in
theorem ok_44 : ∀ q ∈ mt_44, mx_ok mx_I0 i_44 q.1 q.2 := by
  refine List.forall_mem_cons.mpr ⟨sn_iload_n (k := 1) (by decide +kernel), ?_⟩
  refine List.forall_mem_cons.mpr ⟨sn_table (df := 209) (offs := #[67, 82, 89, 96, 108, 121, 129, 148, 156, 163, 178, 185, 201]) (len := 67) (by decide +kernel) (by decide) (by decide), ?_⟩
  refine List.forall_mem_cons.mpr ⟨sn_aload_n (k := 0) (by decide +kernel), ?_⟩
  refine List.forall_mem_cons.mpr ⟨sn_getf (by decide +kernel) rfl tbX4 (by decide) tw_259, ?_⟩
  refine List.forall_mem_cons.mpr ⟨sn_iload_n (k := 2) (by decide +kernel), ?_⟩
  refine List.forall_mem_cons.mpr ⟨sn_aload_n (k := 0) (by decide +kernel), ?_⟩
  refine List.forall_mem_cons.mpr ⟨sn_getf (by decide +kernel) rfl tbX4 (by decide) tw_261, ?_⟩
  refine List.forall_mem_cons.mpr ⟨⟨i_21, rfl, mk_callV (by decide) (by decide) cv_21 (Or.inl tw_688) rfl (by decide +kernel)⟩, ?_⟩
  refine List.forall_mem_cons.mpr ⟨sn_goto (off := 130) (by decide +kernel) (by decide), ?_⟩
  refine List.forall_mem_cons.mpr ⟨sn_aload_n (k := 0) (by decide +kernel), ?_⟩
  refine List.forall_mem_cons.mpr ⟨⟨i_46, rfl, mk_callV (by decide) (by decide) cv_46 (Or.inl tw_692) rfl (by decide +kernel)⟩, ?_⟩
  refine List.forall_mem_cons.mpr ⟨sn_goto (off := 123) (by decide +kernel) (by decide), ?_⟩
  refine List.forall_mem_cons.mpr ⟨sn_aload_n (k := 0) (by decide +kernel), ?_⟩
  refine List.forall_mem_cons.mpr ⟨⟨i_47, rfl, mk_callV (by decide) (by decide) cv_47 (Or.inl tw_709) rfl (by decide +kernel)⟩, ?_⟩
  refine List.forall_mem_cons.mpr ⟨sn_goto (off := 116) (by decide +kernel) (by decide), ?_⟩
  refine List.forall_mem_cons.mpr ⟨sn_aload_n (k := 0) (by decide +kernel), ?_⟩
  refine List.forall_mem_cons.mpr ⟨sn_aload_n (k := 0) (by decide +kernel), ?_⟩
  refine List.forall_mem_cons.mpr ⟨sn_getf (by decide +kernel) rfl tbX4 (by decide) tw_261, ?_⟩
  refine List.forall_mem_cons.mpr ⟨sn_ineg (by decide +kernel), ?_⟩
  refine List.forall_mem_cons.mpr ⟨sn_putf tyX4 (by decide +kernel) rfl tbX4 tyX4_ok nmX4 (by decide) tw_261 (Or.inl rfl) rfl, ?_⟩
  refine List.forall_mem_cons.mpr ⟨sn_goto (off := 104) (by decide +kernel) (by decide), ?_⟩
  refine List.forall_mem_cons.mpr ⟨sn_aload_n (k := 0) (by decide +kernel), ?_⟩
  refine List.forall_mem_cons.mpr ⟨sn_aload_n (k := 0) (by decide +kernel), ?_⟩
  refine List.forall_mem_cons.mpr ⟨sn_getf (by decide +kernel) rfl tbX4 (by decide) tw_261, ?_⟩
  refine List.forall_mem_cons.mpr ⟨sn_iconst (k := (-1)) (by decide +kernel) (by decide), ?_⟩
  refine List.forall_mem_cons.mpr ⟨sn_ixor (by decide +kernel), ?_⟩
  refine List.forall_mem_cons.mpr ⟨sn_putf tyX4 (by decide +kernel) rfl tbX4 tyX4_ok nmX4 (by decide) tw_261 (Or.inl rfl) rfl, ?_⟩
  refine List.forall_mem_cons.mpr ⟨sn_goto (off := 91) (by decide +kernel) (by decide), ?_⟩
  refine List.forall_mem_cons.mpr ⟨sn_aload_n (k := 0) (by decide +kernel), ?_⟩
  refine List.forall_mem_cons.mpr ⟨sn_iload_n (k := 2) (by decide +kernel), ?_⟩
  refine List.forall_mem_cons.mpr ⟨⟨i_48, rfl, mk_callV (by decide) (by decide) cv_48 (Or.inl tw_717) rfl (by decide +kernel)⟩, ?_⟩
  refine List.forall_mem_cons.mpr ⟨sn_goto (off := 83) (by decide +kernel) (by decide), ?_⟩
  refine List.forall_mem_cons.mpr ⟨sn_aload_n (k := 0) (by decide +kernel), ?_⟩
  refine List.forall_mem_cons.mpr ⟨sn_iload_n (k := 2) (by decide +kernel), ?_⟩
  refine List.forall_mem_cons.mpr ⟨sn_aload_n (k := 0) (by decide +kernel), ?_⟩
  refine List.forall_mem_cons.mpr ⟨sn_getf (by decide +kernel) rfl tbX4 (by decide) tw_262, ?_⟩
  refine List.forall_mem_cons.mpr ⟨sn_aload_n (k := 0) (by decide +kernel), ?_⟩
  refine List.forall_mem_cons.mpr ⟨sn_getf (by decide +kernel) rfl tbX4 (by decide) tw_261, ?_⟩
  refine List.forall_mem_cons.mpr ⟨⟨i_14, rfl, mk_callS (by decide) (by decide) cs_14 (Or.inl tw_723) (by decide +kernel)⟩, ?_⟩
  refine List.forall_mem_cons.mpr ⟨sn_putf tyX4 (by decide +kernel) rfl tbX4 tyX4_ok nmX4 (by decide) tw_261 (Or.inl rfl) rfl, ?_⟩
  refine List.forall_mem_cons.mpr ⟨sn_goto (off := 64) (by decide +kernel) (by decide), ?_⟩
  refine List.forall_mem_cons.mpr ⟨sn_aload_n (k := 0) (by decide +kernel), ?_⟩
  refine List.forall_mem_cons.mpr ⟨sn_iload_n (k := 2) (by decide +kernel), ?_⟩
  refine List.forall_mem_cons.mpr ⟨⟨i_49, rfl, mk_callV (by decide) (by decide) cv_49 (Or.inl tw_724) rfl (by decide +kernel)⟩, ?_⟩
  refine List.forall_mem_cons.mpr ⟨sn_goto (off := 56) (by decide +kernel) (by decide), ?_⟩
  refine List.forall_mem_cons.mpr ⟨sn_aload_n (k := 0) (by decide +kernel), ?_⟩
  refine List.forall_mem_cons.mpr ⟨⟨i_51, rfl, mk_callV (by decide) (by decide) cv_51 (Or.inl tw_728) rfl (by decide +kernel)⟩, ?_⟩
  refine List.forall_mem_cons.mpr ⟨sn_goto (off := 49) (by decide +kernel) (by decide), ?_⟩
  refine List.forall_mem_cons.mpr ⟨sn_aload_n (k := 0) (by decide +kernel), ?_⟩
  refine List.forall_mem_cons.mpr ⟨sn_aload_n (k := 0) (by decide +kernel), ?_⟩
  refine List.forall_mem_cons.mpr ⟨sn_getf (by decide +kernel) rfl tbX4 (by decide) tw_260, ?_⟩
  refine List.forall_mem_cons.mpr ⟨sn_iload_n (k := 2) (by decide +kernel), ?_⟩
  refine List.forall_mem_cons.mpr ⟨⟨i_3, rfl, mk_callV (by decide) (by decide) cv_3 (Or.inl tw_682) rfl (by decide +kernel)⟩, ?_⟩
  refine List.forall_mem_cons.mpr ⟨⟨i_52, rfl, mk_callV (by decide) (by decide) cv_52 (Or.inl tw_736) rfl (by decide +kernel)⟩, ?_⟩
  refine List.forall_mem_cons.mpr ⟨sn_goto (off := 34) (by decide +kernel) (by decide), ?_⟩
  refine List.forall_mem_cons.mpr ⟨sn_aload_n (k := 0) (by decide +kernel), ?_⟩
  refine List.forall_mem_cons.mpr ⟨⟨i_53, rfl, mk_callV (by decide) (by decide) cv_53 (Or.inl tw_740) rfl (by decide +kernel)⟩, ?_⟩
  refine List.forall_mem_cons.mpr ⟨sn_goto (off := 27) (by decide +kernel) (by decide), ?_⟩
  refine List.forall_mem_cons.mpr ⟨sn_aload_n (k := 0) (by decide +kernel), ?_⟩
  refine List.forall_mem_cons.mpr ⟨sn_aload_n (k := 0) (by decide +kernel), ?_⟩
  refine List.forall_mem_cons.mpr ⟨sn_getf (by decide +kernel) rfl tbX4 (by decide) tw_261, ?_⟩
  refine List.forall_mem_cons.mpr ⟨sn_putf tyX4 (by decide +kernel) rfl tbX4 tyX4_ok nmX4 (by decide) tw_265 (Or.inl rfl) rfl, ?_⟩
  refine List.forall_mem_cons.mpr ⟨sn_aload_n (k := 0) (by decide +kernel), ?_⟩
  refine List.forall_mem_cons.mpr ⟨sn_iconst (k := 0) (by decide +kernel) (by decide), ?_⟩
  refine List.forall_mem_cons.mpr ⟨sn_putf tyX4 (by decide +kernel) rfl tbX4 tyX4_ok nmX4 (by decide) tw_264 (Or.inl rfl) rfl, ?_⟩
  refine List.forall_mem_cons.mpr ⟨sn_goto (off := 11) (by decide +kernel) (by decide), ?_⟩
  refine List.forall_mem_cons.mpr ⟨sn_aload_n (k := 0) (by decide +kernel), ?_⟩
  refine List.forall_mem_cons.mpr ⟨sn_iconst (k := 4) (by decide +kernel) (by decide), ?_⟩
  refine List.forall_mem_cons.mpr ⟨sn_putf tyX4 (by decide +kernel) rfl tbX4 tyX4_ok nmX4 (by decide) tw_264 (Or.inl rfl) rfl, ?_⟩
  refine List.forall_mem_cons.mpr ⟨sn_goto (off := 3) (by decide +kernel) (by decide), ?_⟩
  refine List.forall_mem_cons.mpr ⟨⟨rfl, (by decide +kernel : decode prog_6_method_5_code 210 = .ok (.return_, 1))⟩, ?_⟩
  exact fun _ h => absurd h List.not_mem_nil
set_option maxRecDepth 20000 in
theorem ok_45 : ∀ q ∈ mt_45, mx_ok mx_I0 i_45 q.1 q.2 := by
  refine List.forall_mem_cons.mpr ⟨sn_lload_n (k := 1) (by decide +kernel), ?_⟩
  refine List.forall_mem_cons.mpr ⟨⟨i_19, rfl, mk_callS (by decide) (by decide) cs_19 (Or.inl tw_700) (by decide +kernel)⟩, ?_⟩
  refine List.forall_mem_cons.mpr ⟨sn_istore_n (k := 3) (by decide +kernel) (by decide), ?_⟩
  refine List.forall_mem_cons.mpr ⟨sn_iload_n (k := 3) (by decide +kernel), ?_⟩
  refine List.forall_mem_cons.mpr ⟨sn_if_ne (off := 8) (by decide +kernel) (by decide), ?_⟩
  refine List.forall_mem_cons.mpr ⟨sn_aload_n (k := 0) (by decide +kernel), ?_⟩
  refine List.forall_mem_cons.mpr ⟨sn_iconst (k := 2) (by decide +kernel) (by decide), ?_⟩
  refine List.forall_mem_cons.mpr ⟨sn_putf tyX4 (by decide +kernel) rfl tbX4 tyX4_ok nmX4 (by decide) tw_264 (Or.inl rfl) rfl, ?_⟩
  refine List.forall_mem_cons.mpr ⟨sn_iload_n (k := 3) (by decide +kernel), ?_⟩
  refine List.forall_mem_cons.mpr ⟨⟨rfl, (by decide +kernel : decode prog_6_method_6_code 15 = .ok (.ireturn, 1))⟩, ?_⟩
  exact fun _ h => absurd h List.not_mem_nil
set_option maxRecDepth 20000 in
theorem ok_46 : ∀ q ∈ mt_46, mx_ok mx_I0 i_46 q.1 q.2 := by
  refine List.forall_mem_cons.mpr ⟨sn_aload_n (k := 0) (by decide +kernel), ?_⟩
  refine List.forall_mem_cons.mpr ⟨sn_aload_n (k := 0) (by decide +kernel), ?_⟩
  refine List.forall_mem_cons.mpr ⟨sn_getf (by decide +kernel) rfl tbX4 (by decide) tw_261, ?_⟩
  refine List.forall_mem_cons.mpr ⟨sn_i2l (by decide +kernel), ?_⟩
  refine List.forall_mem_cons.mpr ⟨⟨i_45, rfl, mk_callV (by decide) (by decide) cv_45 (Or.inl tw_696) rfl (by decide +kernel)⟩, ?_⟩
  refine List.forall_mem_cons.mpr ⟨sn_if_eq (off := 18) (by decide +kernel) (by decide), ?_⟩
  refine List.forall_mem_cons.mpr ⟨sn_aload_n (k := 0) (by decide +kernel), ?_⟩
  refine List.forall_mem_cons.mpr ⟨sn_aload_n (k := 0) (by decide +kernel), ?_⟩
  refine List.forall_mem_cons.mpr ⟨sn_getf (by decide +kernel) rfl tbX4 (by decide) tw_259, ?_⟩
  refine List.forall_mem_cons.mpr ⟨sn_aload_n (k := 0) (by decide +kernel), ?_⟩
  refine List.forall_mem_cons.mpr ⟨sn_getf (by decide +kernel) rfl tbX4 (by decide) tw_261, ?_⟩
  refine List.forall_mem_cons.mpr ⟨⟨i_22, rfl, mk_callV (by decide) (by decide) cv_22 (Or.inl tw_704) rfl (by decide +kernel)⟩, ?_⟩
  refine List.forall_mem_cons.mpr ⟨sn_putf tyX4 (by decide +kernel) rfl tbX4 tyX4_ok nmX4 (by decide) tw_261 (Or.inl rfl) rfl, ?_⟩
  refine List.forall_mem_cons.mpr ⟨⟨rfl, (by decide +kernel : decode prog_6_method_7_code 27 = .ok (.return_, 1))⟩, ?_⟩
  exact fun _ h => absurd h List.not_mem_nil
set_option maxRecDepth 20000 in
theorem ok_47 : ∀ q ∈ mt_47, mx_ok mx_I0 i_47 q.1 q.2 := by
  refine List.forall_mem_cons.mpr ⟨sn_aload_n (k := 0) (by decide +kernel), ?_⟩
  refine List.forall_mem_cons.mpr ⟨sn_aload_n (k := 0) (by decide +kernel), ?_⟩
  refine List.forall_mem_cons.mpr ⟨sn_getf (by decide +kernel) rfl tbX4 (by decide) tw_261, ?_⟩
  refine List.forall_mem_cons.mpr ⟨sn_i2l (by decide +kernel), ?_⟩
  refine List.forall_mem_cons.mpr ⟨⟨i_45, rfl, mk_callV (by decide) (by decide) cv_45 (Or.inl tw_696) rfl (by decide +kernel)⟩, ?_⟩
  refine List.forall_mem_cons.mpr ⟨sn_if_eq (off := 18) (by decide +kernel) (by decide), ?_⟩
  refine List.forall_mem_cons.mpr ⟨sn_aload_n (k := 0) (by decide +kernel), ?_⟩
  refine List.forall_mem_cons.mpr ⟨sn_getf (by decide +kernel) rfl tbX4 (by decide) tw_259, ?_⟩
  refine List.forall_mem_cons.mpr ⟨sn_aload_n (k := 0) (by decide +kernel), ?_⟩
  refine List.forall_mem_cons.mpr ⟨sn_getf (by decide +kernel) rfl tbX4 (by decide) tw_261, ?_⟩
  refine List.forall_mem_cons.mpr ⟨sn_aload_n (k := 0) (by decide +kernel), ?_⟩
  refine List.forall_mem_cons.mpr ⟨sn_getf (by decide +kernel) rfl tbX4 (by decide) tw_262, ?_⟩
  refine List.forall_mem_cons.mpr ⟨⟨i_23, rfl, mk_callV (by decide) (by decide) cv_23 (Or.inl tw_713) rfl (by decide +kernel)⟩, ?_⟩
  refine List.forall_mem_cons.mpr ⟨⟨rfl, (by decide +kernel : decode prog_6_method_8_code 27 = .ok (.return_, 1))⟩, ?_⟩
  exact fun _ h => absurd h List.not_mem_nil
set_option maxRecDepth 20000 in
theorem ok_48 : ∀ q ∈ mt_48, mx_ok mx_I0 i_48 q.1 q.2 := by
  refine List.forall_mem_cons.mpr ⟨sn_aload_n (k := 0) (by decide +kernel), ?_⟩
  refine List.forall_mem_cons.mpr ⟨sn_getf (by decide +kernel) rfl tbX4 (by decide) tw_261, ?_⟩
  refine List.forall_mem_cons.mpr ⟨sn_if_ne (off := 18) (by decide +kernel) (by decide), ?_⟩
  refine List.forall_mem_cons.mpr ⟨sn_iload_n (k := 1) (by decide +kernel), ?_⟩
  refine List.forall_mem_cons.mpr ⟨⟨i_9, rfl, mk_callS (by decide) (by decide) cs_9 (Or.inl tw_721) (by decide +kernel)⟩, ?_⟩
  refine List.forall_mem_cons.mpr ⟨sn_if_eq (off := 11) (by decide +kernel) (by decide), ?_⟩
  refine List.forall_mem_cons.mpr ⟨sn_aload_n (k := 0) (by decide +kernel), ?_⟩
  refine List.forall_mem_cons.mpr ⟨sn_iconst (k := 3) (by decide +kernel) (by decide), ?_⟩
  refine List.forall_mem_cons.mpr ⟨sn_putf tyX4 (by decide +kernel) rfl tbX4 tyX4_ok nmX4 (by decide) tw_264 (Or.inl rfl) rfl, ?_⟩
  refine List.forall_mem_cons.mpr ⟨sn_goto (off := 19) (by decide +kernel) (by decide), ?_⟩
  refine List.forall_mem_cons.mpr ⟨sn_aload_n (k := 0) (by decide +kernel), ?_⟩
  refine List.forall_mem_cons.mpr ⟨sn_iload_n (k := 1) (by decide +kernel), ?_⟩
  refine List.forall_mem_cons.mpr ⟨sn_aload_n (k := 0) (by decide +kernel), ?_⟩
  refine List.forall_mem_cons.mpr ⟨sn_getf (by decide +kernel) rfl tbX4 (by decide) tw_262, ?_⟩
  refine List.forall_mem_cons.mpr ⟨sn_aload_n (k := 0) (by decide +kernel), ?_⟩
  refine List.forall_mem_cons.mpr ⟨sn_getf (by decide +kernel) rfl tbX4 (by decide) tw_261, ?_⟩
  refine List.forall_mem_cons.mpr ⟨⟨i_10, rfl, mk_callS (by decide) (by decide) cs_10 (Or.inl tw_722) (by decide +kernel)⟩, ?_⟩
  refine List.forall_mem_cons.mpr ⟨sn_putf tyX4 (by decide +kernel) rfl tbX4 tyX4_ok nmX4 (by decide) tw_261 (Or.inl rfl) rfl, ?_⟩
  refine List.forall_mem_cons.mpr ⟨⟨rfl, (by decide +kernel : decode prog_6_method_9_code 38 = .ok (.return_, 1))⟩, ?_⟩
  exact fun _ h => absurd h List.not_mem_nil
set_option maxRecDepth 20000 in
theorem ok_49 : ∀ q ∈ mt_49, mx_ok mx_I0 i_49 q.1 q.2 := by
  refine List.forall_mem_cons.mpr ⟨sn_aload_n (k := 0) (by decide +kernel), ?_⟩
  refine List.forall_mem_cons.mpr ⟨sn_getf (by decide +kernel) rfl tbX4 (by decide) tw_261, ?_⟩
  refine List.forall_mem_cons.mpr ⟨sn_istore_n (k := 2) (by decide +kernel) (by decide), ?_⟩
  refine List.forall_mem_cons.mpr ⟨sn_aload_n (k := 0) (by decide +kernel), ?_⟩
  refine List.forall_mem_cons.mpr ⟨sn_iload_n (k := 1) (by decide +kernel), ?_⟩
  refine List.forall_mem_cons.mpr ⟨sn_aload_n (k := 0) (by decide +kernel), ?_⟩
  refine List.forall_mem_cons.mpr ⟨sn_getf (by decide +kernel) rfl tbX4 (by decide) tw_262, ?_⟩
  refine List.forall_mem_cons.mpr ⟨sn_iload_n (k := 2) (by decide +kernel), ?_⟩
  refine List.forall_mem_cons.mpr ⟨⟨i_14, rfl, mk_callS (by decide) (by decide) cs_14 (Or.inl tw_723) (by decide +kernel)⟩, ?_⟩
  refine List.forall_mem_cons.mpr ⟨sn_putf tyX4 (by decide +kernel) rfl tbX4 tyX4_ok nmX4 (by decide) tw_261 (Or.inl rfl) rfl, ?_⟩
  refine List.forall_mem_cons.mpr ⟨sn_aload_n (k := 0) (by decide +kernel), ?_⟩
  refine List.forall_mem_cons.mpr ⟨sn_iload_n (k := 2) (by decide +kernel), ?_⟩
  refine List.forall_mem_cons.mpr ⟨sn_putf tyX4 (by decide +kernel) rfl tbX4 tyX4_ok nmX4 (by decide) tw_262 (Or.inl rfl) rfl, ?_⟩
  refine List.forall_mem_cons.mpr ⟨⟨rfl, (by decide +kernel : decode prog_6_method_10_code 23 = .ok (.return_, 1))⟩, ?_⟩
  exact fun _ h => absurd h List.not_mem_nil
set_option maxRecDepth 20000 in
theorem ok_50 : ∀ q ∈ mt_50, mx_ok mx_I0 i_50 q.1 q.2 := by
  refine List.forall_mem_cons.mpr ⟨sn_aload_n (k := 0) (by decide +kernel), ?_⟩
  refine List.forall_mem_cons.mpr ⟨sn_getf (by decide +kernel) rfl tbX4 (by decide) tw_262, ?_⟩
  refine List.forall_mem_cons.mpr ⟨sn_i2l (by decide +kernel), ?_⟩
  refine List.forall_mem_cons.mpr ⟨sn_aload_n (k := 0) (by decide +kernel), ?_⟩
  refine List.forall_mem_cons.mpr ⟨sn_getf (by decide +kernel) rfl tbX4 (by decide) tw_261, ?_⟩
  refine List.forall_mem_cons.mpr ⟨sn_iconst (k := 2) (by decide +kernel) (by decide), ?_⟩
  refine List.forall_mem_cons.mpr ⟨sn_ishr (by decide +kernel), ?_⟩
  refine List.forall_mem_cons.mpr ⟨sn_i2l (by decide +kernel), ?_⟩
  refine List.forall_mem_cons.mpr ⟨sn_ladd (by decide +kernel), ?_⟩
  refine List.forall_mem_cons.mpr ⟨⟨rfl, (by decide +kernel : decode prog_6_method_11_code 13 = .ok (.lreturn, 1))⟩, ?_⟩
  exact fun _ h => absurd h List.not_mem_nil
set_option maxRecDepth 20000 in
theorem ok_51 : ∀ q ∈ mt_51, mx_ok mx_I0 i_51 q.1 q.2 := by
  refine List.forall_mem_cons.mpr ⟨sn_aload_n (k := 0) (by decide +kernel), ?_⟩
  refine List.forall_mem_cons.mpr ⟨sn_aload_n (k := 0) (by decide +kernel), ?_⟩
  refine List.forall_mem_cons.mpr ⟨⟨i_50, rfl, mk_callV (by decide) (by decide) cv_50 (Or.inl tw_732) rfl (by decide +kernel)⟩, ?_⟩
  refine List.forall_mem_cons.mpr ⟨⟨i_45, rfl, mk_callV (by decide) (by decide) cv_45 (Or.inl tw_696) rfl (by decide +kernel)⟩, ?_⟩
  refine List.forall_mem_cons.mpr ⟨sn_if_eq (off := 35) (by decide +kernel) (by decide), ?_⟩
  refine List.forall_mem_cons.mpr ⟨sn_aload_n (k := 0) (by decide +kernel), ?_⟩
  refine List.forall_mem_cons.mpr ⟨sn_getf (by decide +kernel) rfl tbX4 (by decide) tw_259, ?_⟩
  refine List.forall_mem_cons.mpr ⟨sn_aload_n (k := 0) (by decide +kernel), ?_⟩
  refine List.forall_mem_cons.mpr ⟨⟨i_50, rfl, mk_callV (by decide) (by decide) cv_50 (Or.inl tw_732) rfl (by decide +kernel)⟩, ?_⟩
  refine List.forall_mem_cons.mpr ⟨sn_l2i (by decide +kernel), ?_⟩
  refine List.forall_mem_cons.mpr ⟨⟨i_22, rfl, mk_callV (by decide) (by decide) cv_22 (Or.inl tw_704) rfl (by decide +kernel)⟩, ?_⟩
  refine List.forall_mem_cons.mpr ⟨sn_istore_n (k := 1) (by decide +kernel) (by decide), ?_⟩
  refine List.forall_mem_cons.mpr ⟨sn_aload_n (k := 0) (by decide +kernel), ?_⟩
  refine List.forall_mem_cons.mpr ⟨sn_iload_n (k := 1) (by decide +kernel), ?_⟩
  refine List.forall_mem_cons.mpr ⟨sn_bipush (k := 8) (by decide +kernel) (by decide), ?_⟩
  refine List.forall_mem_cons.mpr ⟨sn_aload_n (k := 0) (by decide +kernel), ?_⟩
  refine List.forall_mem_cons.mpr ⟨sn_getf (by decide +kernel) rfl tbX4 (by decide) tw_261, ?_⟩
  refine List.forall_mem_cons.mpr ⟨sn_iconst (k := 3) (by decide +kernel) (by decide), ?_⟩
  refine List.forall_mem_cons.mpr ⟨sn_iand (by decide +kernel), ?_⟩
  refine List.forall_mem_cons.mpr ⟨sn_imul (by decide +kernel), ?_⟩
  refine List.forall_mem_cons.mpr ⟨sn_iushr (by decide +kernel), ?_⟩
  refine List.forall_mem_cons.mpr ⟨sn_sipush (k := 255) (by decide +kernel) (by decide), ?_⟩
  refine List.forall_mem_cons.mpr ⟨sn_iand (by decide +kernel), ?_⟩
  refine List.forall_mem_cons.mpr ⟨sn_putf tyX4 (by decide +kernel) rfl tbX4 tyX4_ok nmX4 (by decide) tw_261 (Or.inl rfl) rfl, ?_⟩
  refine List.forall_mem_cons.mpr ⟨⟨rfl, (by decide +kernel : decode prog_6_method_12_code 43 = .ok (.return_, 1))⟩, ?_⟩
  exact fun _ h => absurd h List.not_mem_nil
set_option maxRecDepth 20000 in
theorem ok_52 : ∀ q ∈ mt_52, mx_ok mx_I0 i_52 q.1 q.2 := by
  refine List.forall_mem_cons.mpr ⟨sn_aload_n (k := 0) (by decide +kernel), ?_⟩
  refine List.forall_mem_cons.mpr ⟨sn_aload_n (k := 0) (by decide +kernel), ?_⟩
  refine List.forall_mem_cons.mpr ⟨⟨i_50, rfl, mk_callV (by decide) (by decide) cv_50 (Or.inl tw_732) rfl (by decide +kernel)⟩, ?_⟩
  refine List.forall_mem_cons.mpr ⟨⟨i_45, rfl, mk_callV (by decide) (by decide) cv_45 (Or.inl tw_696) rfl (by decide +kernel)⟩, ?_⟩
  refine List.forall_mem_cons.mpr ⟨sn_if_eq (off := 55) (by decide +kernel) (by decide), ?_⟩
  refine List.forall_mem_cons.mpr ⟨sn_aload_n (k := 0) (by decide +kernel), ?_⟩
  refine List.forall_mem_cons.mpr ⟨⟨i_50, rfl, mk_callV (by decide) (by decide) cv_50 (Or.inl tw_732) rfl (by decide +kernel)⟩, ?_⟩
  refine List.forall_mem_cons.mpr ⟨sn_l2i (by decide +kernel), ?_⟩
  refine List.forall_mem_cons.mpr ⟨sn_istore_n (k := 2) (by decide +kernel) (by decide), ?_⟩
  refine List.forall_mem_cons.mpr ⟨sn_bipush (k := 8) (by decide +kernel) (by decide), ?_⟩
  refine List.forall_mem_cons.mpr ⟨sn_aload_n (k := 0) (by decide +kernel), ?_⟩
  refine List.forall_mem_cons.mpr ⟨sn_getf (by decide +kernel) rfl tbX4 (by decide) tw_261, ?_⟩
  refine List.forall_mem_cons.mpr ⟨sn_iconst (k := 3) (by decide +kernel) (by decide), ?_⟩
  refine List.forall_mem_cons.mpr ⟨sn_iand (by decide +kernel), ?_⟩
  refine List.forall_mem_cons.mpr ⟨sn_imul (by decide +kernel), ?_⟩
  refine List.forall_mem_cons.mpr ⟨sn_istore_n (k := 3) (by decide +kernel) (by decide), ?_⟩
  refine List.forall_mem_cons.mpr ⟨sn_aload_n (k := 0) (by decide +kernel), ?_⟩
  refine List.forall_mem_cons.mpr ⟨sn_getf (by decide +kernel) rfl tbX4 (by decide) tw_259, ?_⟩
  refine List.forall_mem_cons.mpr ⟨sn_iload_n (k := 2) (by decide +kernel), ?_⟩
  refine List.forall_mem_cons.mpr ⟨⟨i_22, rfl, mk_callV (by decide) (by decide) cv_22 (Or.inl tw_704) rfl (by decide +kernel)⟩, ?_⟩
  refine List.forall_mem_cons.mpr ⟨sn_sipush (k := 255) (by decide +kernel) (by decide), ?_⟩
  refine List.forall_mem_cons.mpr ⟨sn_iload_n (k := 3) (by decide +kernel), ?_⟩
  refine List.forall_mem_cons.mpr ⟨sn_ishl (by decide +kernel), ?_⟩
  refine List.forall_mem_cons.mpr ⟨sn_iconst (k := (-1)) (by decide +kernel) (by decide), ?_⟩
  refine List.forall_mem_cons.mpr ⟨sn_ixor (by decide +kernel), ?_⟩
  refine List.forall_mem_cons.mpr ⟨sn_iand (by decide +kernel), ?_⟩
  refine List.forall_mem_cons.mpr ⟨sn_istore (k := 4) (by decide +kernel) (by decide), ?_⟩
  refine List.forall_mem_cons.mpr ⟨sn_aload_n (k := 0) (by decide +kernel), ?_⟩
  refine List.forall_mem_cons.mpr ⟨sn_getf (by decide +kernel) rfl tbX4 (by decide) tw_259, ?_⟩
  refine List.forall_mem_cons.mpr ⟨sn_iload_n (k := 2) (by decide +kernel), ?_⟩
  refine List.forall_mem_cons.mpr ⟨sn_iload (k := 4) (by decide +kernel), ?_⟩
  refine List.forall_mem_cons.mpr ⟨sn_iload_n (k := 1) (by decide +kernel), ?_⟩
  refine List.forall_mem_cons.mpr ⟨sn_sipush (k := 255) (by decide +kernel) (by decide), ?_⟩
  refine List.forall_mem_cons.mpr ⟨sn_iand (by decide +kernel), ?_⟩
  refine List.forall_mem_cons.mpr ⟨sn_iload_n (k := 3) (by decide +kernel), ?_⟩
  refine List.forall_mem_cons.mpr ⟨sn_ishl (by decide +kernel), ?_⟩
  refine List.forall_mem_cons.mpr ⟨sn_ior (by decide +kernel), ?_⟩
  refine List.forall_mem_cons.mpr ⟨⟨i_23, rfl, mk_callV (by decide) (by decide) cv_23 (Or.inl tw_713) rfl (by decide +kernel)⟩, ?_⟩
  refine List.forall_mem_cons.mpr ⟨⟨rfl, (by decide +kernel : decode prog_6_method_13_code 63 = .ok (.return_, 1))⟩, ?_⟩
  exact fun _ h => absurd h List.not_mem_nil
set_option maxRecDepth 20000 in
theorem ok_53 : ∀ q ∈ mt_53, mx_ok mx_I0 i_53 q.1 q.2 := by
  refine List.forall_mem_cons.mpr ⟨sn_aload_n (k := 0) (by decide +kernel), ?_⟩
  refine List.forall_mem_cons.mpr ⟨sn_getf (by decide +kernel) rfl tbX4 (by decide) tw_267, ?_⟩
  refine List.forall_mem_cons.mpr ⟨sn_if_ne (off := 11) (by decide +kernel) (by decide), ?_⟩
  refine List.forall_mem_cons.mpr ⟨sn_aload_n (k := 0) (by decide +kernel), ?_⟩
  refine List.forall_mem_cons.mpr ⟨sn_iconst (k := 1) (by decide +kernel) (by decide), ?_⟩
  refine List.forall_mem_cons.mpr ⟨sn_putf tyX4 (by decide +kernel) rfl tbX4 tyX4_ok nmX4 (by decide) tw_264 (Or.inl rfl) rfl, ?_⟩
  refine List.forall_mem_cons.mpr ⟨sn_goto (off := 13) (by decide +kernel) (by decide), ?_⟩
  refine List.forall_mem_cons.mpr ⟨sn_aload_n (k := 0) (by decide +kernel), ?_⟩
  refine List.forall_mem_cons.mpr ⟨sn_dup (by decide +kernel), ?_⟩
  refine List.forall_mem_cons.mpr ⟨sn_getf (by decide +kernel) rfl tbX4 (by decide) tw_267, ?_⟩
  refine List.forall_mem_cons.mpr ⟨sn_iconst (k := 1) (by decide +kernel) (by decide), ?_⟩
  refine List.forall_mem_cons.mpr ⟨sn_isub (by decide +kernel), ?_⟩
  refine List.forall_mem_cons.mpr ⟨sn_putf tyX4 (by decide +kernel) rfl tbX4 tyX4_ok nmX4 (by decide) tw_267 (Or.inl rfl) rfl, ?_⟩
  refine List.forall_mem_cons.mpr ⟨⟨rfl, (by decide +kernel : decode prog_6_method_14_code 25 = .ok (.return_, 1))⟩, ?_⟩
  exact fun _ h => absurd h List.not_mem_nil
set_option maxRecDepth 20000 in
theorem ok_54 : ∀ q ∈ mt_54, mx_ok mx_I0 i_54 q.1 q.2 := by
  refine List.forall_mem_cons.mpr ⟨sn_aload_n (k := 0) (by decide +kernel), ?_⟩
  refine List.forall_mem_cons.mpr ⟨sn_obj (by decide +kernel) tw_124 tw_90 tw_oi (by decide) (by decide), ?_⟩
  refine List.forall_mem_cons.mpr ⟨sn_aload_n (k := 0) (by decide +kernel), ?_⟩
  refine List.forall_mem_cons.mpr ⟨sn_new tyX6 (by decide +kernel) rfl tbX6 tyX6_ok tw_125 tw_99 tw_68 rfl (by decide), ?_⟩
  refine List.forall_mem_cons.mpr ⟨sn_dup (by decide +kernel), ?_⟩
  refine List.forall_mem_cons.mpr ⟨⟨i_1, rfl, mk_callI (by decide) (by decide) ci_1 (Or.inr ⟨_, tw_126⟩) (by decide +kernel)⟩, ?_⟩
  refine List.forall_mem_cons.mpr ⟨sn_putf tyX3 (by decide +kernel) rfl tbX3 tyX3_ok nmX3 (by decide) tw_128 (Or.inr ⟨rfl, rfl, rfl⟩) rfl, ?_⟩
  refine List.forall_mem_cons.mpr ⟨sn_aload_n (k := 0) (by decide +kernel), ?_⟩
  refine List.forall_mem_cons.mpr ⟨sn_new tyX6 (by decide +kernel) rfl tbX6 tyX6_ok tw_125 tw_99 tw_68 rfl (by decide), ?_⟩
  refine List.forall_mem_cons.mpr ⟨sn_dup (by decide +kernel), ?_⟩
  refine List.forall_mem_cons.mpr ⟨⟨i_1, rfl, mk_callI (by decide) (by decide) ci_1 (Or.inr ⟨_, tw_126⟩) (by decide +kernel)⟩, ?_⟩
  refine List.forall_mem_cons.mpr ⟨sn_putf tyX3 (by decide +kernel) rfl tbX3 tyX3_ok nmX3 (by decide) tw_129 (Or.inr ⟨rfl, rfl, rfl⟩) rfl, ?_⟩
  refine List.forall_mem_cons.mpr ⟨sn_aload_n (k := 0) (by decide +kernel), ?_⟩
  refine List.forall_mem_cons.mpr ⟨sn_new tyX6 (by decide +kernel) rfl tbX6 tyX6_ok tw_125 tw_99 tw_68 rfl (by decide), ?_⟩
  refine List.forall_mem_cons.mpr ⟨sn_dup (by decide +kernel), ?_⟩
  refine List.forall_mem_cons.mpr ⟨⟨i_1, rfl, mk_callI (by decide) (by decide) ci_1 (Or.inr ⟨_, tw_126⟩) (by decide +kernel)⟩, ?_⟩
  refine List.forall_mem_cons.mpr ⟨sn_putf tyX3 (by decide +kernel) rfl tbX3 tyX3_ok nmX3 (by decide) tw_130 (Or.inr ⟨rfl, rfl, rfl⟩) rfl, ?_⟩
  refine List.forall_mem_cons.mpr ⟨sn_aload_n (k := 0) (by decide +kernel), ?_⟩
  refine List.forall_mem_cons.mpr ⟨sn_new tyX6 (by decide +kernel) rfl tbX6 tyX6_ok tw_125 tw_99 tw_68 rfl (by decide), ?_⟩
  refine List.forall_mem_cons.mpr ⟨sn_dup (by decide +kernel), ?_⟩
  refine List.forall_mem_cons.mpr ⟨⟨i_1, rfl, mk_callI (by decide) (by decide) ci_1 (Or.inr ⟨_, tw_126⟩) (by decide +kernel)⟩, ?_⟩
  refine List.forall_mem_cons.mpr ⟨sn_putf tyX3 (by decide +kernel) rfl tbX3 tyX3_ok nmX3 (by decide) tw_131 (Or.inr ⟨rfl, rfl, rfl⟩) rfl, ?_⟩
  refine List.forall_mem_cons.mpr ⟨sn_aload_n (k := 0) (by decide +kernel), ?_⟩
  refine List.forall_mem_cons.mpr ⟨sn_aload_n (k := 1) (by decide +kernel), ?_⟩
  refine List.forall_mem_cons.mpr ⟨sn_putf tyX3 (by decide +kernel) rfl tbX3 tyX3_ok nmX3 (by decide) tw_127 (Or.inr ⟨rfl, rfl, rfl⟩) rfl, ?_⟩
  refine List.forall_mem_cons.mpr ⟨⟨rfl, (by decide +kernel : decode prog_5_method_1_code 53 = .ok (.return_, 1))⟩, ?_⟩
  exact fun _ h => absurd h List.not_mem_nil
set_option maxRecDepth 20000 in
theorem ok_55 : ∀ q ∈ mt_55, mx_ok mx_I0 i_55 q.1 q.2 := by
  refine List.forall_mem_cons.mpr ⟨sn_aload_n (k := 0) (by decide +kernel), ?_⟩
  refine List.forall_mem_cons.mpr ⟨sn_iconst (k := 0) (by decide +kernel) (by decide), ?_⟩
  refine List.forall_mem_cons.mpr ⟨sn_putf tyX3 (by decide +kernel) rfl tbX3 tyX3_ok nmX3 (by decide) tw_132 (Or.inl rfl) rfl, ?_⟩
  refine List.forall_mem_cons.mpr ⟨⟨rfl, (by decide +kernel : decode prog_5_method_2_code 5 = .ok (.return_, 1))⟩, ?_⟩
  exact fun _ h => absurd h List.not_mem_nil
set_option maxRecDepth 20000 in
theorem ok_56 : ∀ q ∈ mt_56, mx_ok mx_I0 i_56 q.1 q.2 := by
  refine List.forall_mem_cons.mpr ⟨sn_aload_n (k := 0) (by decide +kernel), ?_⟩
  refine List.forall_mem_cons.mpr ⟨sn_getf (by decide +kernel) rfl tbX3 (by decide) tw_132, ?_⟩
  refine List.forall_mem_cons.mpr ⟨sn_if_ne (off := 62) (by decide +kernel) (by decide), ?_⟩
  refine List.forall_mem_cons.mpr ⟨sn_aload_n (k := 0) (by decide +kernel), ?_⟩
  refine List.forall_mem_cons.mpr ⟨sn_aload_n (k := 0) (by decide +kernel), ?_⟩
  refine List.forall_mem_cons.mpr ⟨sn_getf (by decide +kernel) rfl tbX3 (by decide) tw_127, ?_⟩
  refine List.forall_mem_cons.mpr ⟨⟨i_25, rfl, mk_callV (by decide) (by decide) cv_25 (Or.inl tw_356) rfl (by decide +kernel)⟩, ?_⟩
  refine List.forall_mem_cons.mpr ⟨sn_if_le (off := 42) (by decide +kernel) (by decide), ?_⟩
  refine List.forall_mem_cons.mpr ⟨sn_aload_n (k := 0) (by decide +kernel), ?_⟩
  refine List.forall_mem_cons.mpr ⟨⟨i_59, rfl, mk_callV (by decide) (by decide) cv_59 (Or.inl tw_357) rfl (by decide +kernel)⟩, ?_⟩
  refine List.forall_mem_cons.mpr ⟨sn_if_eq (off := 35) (by decide +kernel) (by decide), ?_⟩
  refine List.forall_mem_cons.mpr ⟨sn_aload_n (k := 0) (by decide +kernel), ?_⟩
  refine List.forall_mem_cons.mpr ⟨⟨i_60, rfl, mk_callV (by decide) (by decide) cv_60 (Or.inl tw_375) rfl (by decide +kernel)⟩, ?_⟩
  refine List.forall_mem_cons.mpr ⟨sn_if_eq (off := 28) (by decide +kernel) (by decide), ?_⟩
  refine List.forall_mem_cons.mpr ⟨sn_aload_n (k := 0) (by decide +kernel), ?_⟩
  refine List.forall_mem_cons.mpr ⟨⟨i_61, rfl, mk_callV (by decide) (by decide) cv_61 (Or.inl tw_385) rfl (by decide +kernel)⟩, ?_⟩
  refine List.forall_mem_cons.mpr ⟨sn_if_eq (off := 21) (by decide +kernel) (by decide), ?_⟩
  refine List.forall_mem_cons.mpr ⟨sn_aload_n (k := 0) (by decide +kernel), ?_⟩
  refine List.forall_mem_cons.mpr ⟨⟨i_64, rfl, mk_callV (by decide) (by decide) cv_64 (Or.inl tw_395) rfl (by decide +kernel)⟩, ?_⟩
  refine List.forall_mem_cons.mpr ⟨sn_if_eq (off := 14) (by decide +kernel) (by decide), ?_⟩
  refine List.forall_mem_cons.mpr ⟨sn_aload_n (k := 0) (by decide +kernel), ?_⟩
  refine List.forall_mem_cons.mpr ⟨⟨i_67, rfl, mk_callV (by decide) (by decide) cv_67 (Or.inl tw_429) rfl (by decide +kernel)⟩, ?_⟩
  refine List.forall_mem_cons.mpr ⟨sn_if_eq (off := 7) (by decide +kernel) (by decide), ?_⟩
  refine List.forall_mem_cons.mpr ⟨sn_iconst (k := 1) (by decide +kernel) (by decide), ?_⟩
  refine List.forall_mem_cons.mpr ⟨sn_goto (off := 4) (by decide +kernel) (by decide), ?_⟩
  refine List.forall_mem_cons.mpr ⟨sn_iconst (k := 0) (by decide +kernel) (by decide), ?_⟩
  refine List.forall_mem_cons.mpr ⟨sn_putf tyX3 (by decide +kernel) rfl tbX3 tyX3_ok nmX3 (by decide) tw_133 (Or.inl rfl) rfl, ?_⟩
  refine List.forall_mem_cons.mpr ⟨sn_aload_n (k := 0) (by decide +kernel), ?_⟩
  refine List.forall_mem_cons.mpr ⟨sn_iconst (k := 1) (by decide +kernel) (by decide), ?_⟩
  refine List.forall_mem_cons.mpr ⟨sn_putf tyX3 (by decide +kernel) rfl tbX3 tyX3_ok nmX3 (by decide) tw_132 (Or.inl rfl) rfl, ?_⟩
  refine List.forall_mem_cons.mpr ⟨sn_aload_n (k := 0) (by decide +kernel), ?_⟩
  refine List.forall_mem_cons.mpr ⟨sn_getf (by decide +kernel) rfl tbX3 (by decide) tw_133, ?_⟩
  refine List.forall_mem_cons.mpr ⟨⟨rfl, (by decide +kernel : decode prog_5_method_3_code 70 = .ok (.ireturn, 1))⟩, ?_⟩
  exact fun _ h => absurd h List.not_mem_nil
set_option maxRecDepth 20000 in
theorem ok_57 : ∀ q ∈ mt_57, mx_ok mx_I0 i_57 q.1 q.2 := by
  refine List.forall_mem_cons.mpr ⟨sn_aload_n (k := 0) (by decide +kernel), ?_⟩
  refine List.forall_mem_cons.mpr ⟨sn_getf (by decide +kernel) rfl tbX3 (by decide) tw_129, ?_⟩
  refine List.forall_mem_cons.mpr ⟨sn_iload_n (k := 1) (by decide +kernel), ?_⟩
  refine List.forall_mem_cons.mpr ⟨⟨i_3, rfl, mk_callV (by decide) (by decide) cv_3 (Or.inl tw_380) rfl (by decide +kernel)⟩, ?_⟩
  refine List.forall_mem_cons.mpr ⟨sn_iconst (k := (-1)) (by decide +kernel) (by decide), ?_⟩
  refine List.forall_mem_cons.mpr ⟨sn_icmp_eq (off := 7) (by decide +kernel) (by decide), ?_⟩
  refine List.forall_mem_cons.mpr ⟨sn_iconst (k := 1) (by decide +kernel) (by decide), ?_⟩
  refine List.forall_mem_cons.mpr ⟨sn_goto (off := 4) (by decide +kernel) (by decide), ?_⟩
  refine List.forall_mem_cons.mpr ⟨sn_iconst (k := 0) (by decide +kernel) (by decide), ?_⟩
  refine List.forall_mem_cons.mpr ⟨⟨rfl, (by decide +kernel : decode prog_5_method_4_code 17 = .ok (.ireturn, 1))⟩, ?_⟩
  exact fun _ h => absurd h List.not_mem_nil
set_option maxRecDepth 20000 in
theorem ok_58 : ∀ q ∈ mt_58, mx_ok mx_I0 i_58 q.1 q.2 := by
  refine List.forall_mem_cons.mpr ⟨sn_aload_n (k := 0) (by decide +kernel), ?_⟩
  refine List.forall_mem_cons.mpr ⟨sn_getf (by decide +kernel) rfl tbX3 (by decide) tw_129, ?_⟩
  refine List.forall_mem_cons.mpr ⟨sn_aload_n (k := 0) (by decide +kernel), ?_⟩
  refine List.forall_mem_cons.mpr ⟨sn_getf (by decide +kernel) rfl tbX3 (by decide) tw_128, ?_⟩
  refine List.forall_mem_cons.mpr ⟨sn_iload_n (k := 1) (by decide +kernel), ?_⟩
  refine List.forall_mem_cons.mpr ⟨⟨i_3, rfl, mk_callV (by decide) (by decide) cv_3 (Or.inl tw_380) rfl (by decide +kernel)⟩, ?_⟩
  refine List.forall_mem_cons.mpr ⟨⟨i_3, rfl, mk_callV (by decide) (by decide) cv_3 (Or.inl tw_380) rfl (by decide +kernel)⟩, ?_⟩
  refine List.forall_mem_cons.mpr ⟨⟨rfl, (by decide +kernel : decode prog_5_method_5_code 15 = .ok (.ireturn, 1))⟩, ?_⟩
  exact fun _ h => absurd h List.not_mem_nil
set_option maxRecDepth 20000 in
theorem ok_59 : ∀ q ∈ mt_59, mx_ok mx_I0 i_59 q.1 q.2 := by
  refine List.forall_mem_cons.mpr ⟨sn_iconst (k := 0) (by decide +kernel) (by decide), ?_⟩
  refine List.forall_mem_cons.mpr ⟨sn_istore_n (k := 1) (by decide +kernel) (by decide), ?_⟩
  refine List.forall_mem_cons.mpr ⟨sn_iload_n (k := 1) (by decide +kernel), ?_⟩
  refine List.forall_mem_cons.mpr ⟨sn_aload_n (k := 0) (by decide +kernel), ?_⟩
  refine List.forall_mem_cons.mpr ⟨sn_getf (by decide +kernel) rfl tbX3 (by decide) tw_127, ?_⟩
  refine List.forall_mem_cons.mpr ⟨⟨i_25, rfl, mk_callV (by decide) (by decide) cv_25 (Or.inl tw_356) rfl (by decide +kernel)⟩, ?_⟩
  refine List.forall_mem_cons.mpr ⟨sn_icmp_ge (off := 65) (by decide +kernel) (by decide), ?_⟩
  refine List.forall_mem_cons.mpr ⟨sn_aload_n (k := 0) (by decide +kernel), ?_⟩
  refine List.forall_mem_cons.mpr ⟨sn_getf (by decide +kernel) rfl tbX3 (by decide) tw_127, ?_⟩
  refine List.forall_mem_cons.mpr ⟨sn_iload_n (k := 1) (by decide +kernel), ?_⟩
  refine List.forall_mem_cons.mpr ⟨⟨i_26, rfl, mk_callV (by decide) (by decide) cv_26 (Or.inl tw_361) rfl (by decide +kernel)⟩, ?_⟩
  refine List.forall_mem_cons.mpr ⟨sn_istore_n (k := 2) (by decide +kernel) (by decide), ?_⟩
  refine List.forall_mem_cons.mpr ⟨sn_iload_n (k := 2) (by decide +kernel), ?_⟩
  refine List.forall_mem_cons.mpr ⟨sn_if_lt (off := 11) (by decide +kernel) (by decide), ?_⟩
  refine List.forall_mem_cons.mpr ⟨sn_iload_n (k := 2) (by decide +kernel), ?_⟩
  refine List.forall_mem_cons.mpr ⟨sn_getsN (by decide +kernel) rfl tw_369, ?_⟩
  refine List.forall_mem_cons.mpr ⟨sn_alen (by decide +kernel), ?_⟩
  refine List.forall_mem_cons.mpr ⟨sn_icmp_lt (off := 5) (by decide +kernel) (by decide), ?_⟩
  refine List.forall_mem_cons.mpr ⟨sn_iconst (k := 0) (by decide +kernel) (by decide), ?_⟩
  refine List.forall_mem_cons.mpr ⟨⟨rfl, (by decide +kernel : decode prog_5_method_6_code 35 = .ok (.ireturn, 1))⟩, ?_⟩
  refine List.forall_mem_cons.mpr ⟨sn_aload_n (k := 0) (by decide +kernel), ?_⟩
  refine List.forall_mem_cons.mpr ⟨sn_getf (by decide +kernel) rfl tbX3 (by decide) tw_127, ?_⟩
  refine List.forall_mem_cons.mpr ⟨sn_iload_n (k := 1) (by decide +kernel), ?_⟩
  refine List.forall_mem_cons.mpr ⟨⟨i_27, rfl, mk_callV (by decide) (by decide) cv_27 (Or.inl tw_371) rfl (by decide +kernel)⟩, ?_⟩
  refine List.forall_mem_cons.mpr ⟨sn_istore_n (k := 3) (by decide +kernel) (by decide), ?_⟩
  refine List.forall_mem_cons.mpr ⟨sn_getsN (by decide +kernel) rfl tw_369, ?_⟩
  refine List.forall_mem_cons.mpr ⟨sn_iload_n (k := 2) (by decide +kernel), ?_⟩
  refine List.forall_mem_cons.mpr ⟨sn_iald (by decide +kernel), ?_⟩
  refine List.forall_mem_cons.mpr ⟨sn_istore (k := 4) (by decide +kernel) (by decide), ?_⟩
  refine List.forall_mem_cons.mpr ⟨sn_iload (k := 4) (by decide +kernel), ?_⟩
  refine List.forall_mem_cons.mpr ⟨sn_if_lt (off := 15) (by decide +kernel) (by decide), ?_⟩
  refine List.forall_mem_cons.mpr ⟨sn_iload_n (k := 3) (by decide +kernel), ?_⟩
  refine List.forall_mem_cons.mpr ⟨sn_if_lt (off := 9) (by decide +kernel) (by decide), ?_⟩
  refine List.forall_mem_cons.mpr ⟨sn_iload_n (k := 3) (by decide +kernel), ?_⟩
  refine List.forall_mem_cons.mpr ⟨sn_iload (k := 4) (by decide +kernel), ?_⟩
  refine List.forall_mem_cons.mpr ⟨sn_icmp_le (off := 5) (by decide +kernel) (by decide), ?_⟩
  refine List.forall_mem_cons.mpr ⟨sn_iconst (k := 0) (by decide +kernel) (by decide), ?_⟩
  refine List.forall_mem_cons.mpr ⟨⟨rfl, (by decide +kernel : decode prog_5_method_6_code 68 = .ok (.ireturn, 1))⟩, ?_⟩
  refine List.forall_mem_cons.mpr ⟨sn_iinc (d := 1) (by decide +kernel) (by decide) (by decide), ?_⟩
  refine List.forall_mem_cons.mpr ⟨sn_goto (off := (-70)) (by decide +kernel) (by decide), ?_⟩
  refine List.forall_mem_cons.mpr ⟨sn_iconst (k := 1) (by decide +kernel) (by decide), ?_⟩
  refine List.forall_mem_cons.mpr ⟨⟨rfl, (by decide +kernel : decode prog_5_method_6_code 76 = .ok (.ireturn, 1))⟩, ?_⟩
  exact fun _ h => absurd h List.not_mem_nil
set_option maxRecDepth 20000 in
theorem ok_60 : ∀ q ∈ mt_60, mx_ok mx_I0 i_60 q.1 q.2 := by
  refine List.forall_mem_cons.mpr ⟨sn_aload_n (k := 0) (by decide +kernel), ?_⟩
  refine List.forall_mem_cons.mpr ⟨sn_getf (by decide +kernel) rfl tbX3 (by decide) tw_128, ?_⟩
  refine List.forall_mem_cons.mpr ⟨sn_bipush (k := 100) (by decide +kernel) (by decide), ?_⟩
  refine List.forall_mem_cons.mpr ⟨sn_iconst (k := (-1)) (by decide +kernel) (by decide), ?_⟩
  refine List.forall_mem_cons.mpr ⟨⟨i_8, rfl, mk_callV (by decide) (by decide) cv_8 (Or.inl tw_379) rfl (by decide +kernel)⟩, ?_⟩
  refine List.forall_mem_cons.mpr ⟨sn_iconst (k := 0) (by decide +kernel) (by decide), ?_⟩
  refine List.forall_mem_cons.mpr ⟨sn_istore_n (k := 1) (by decide +kernel) (by decide), ?_⟩
  refine List.forall_mem_cons.mpr ⟨sn_iload_n (k := 1) (by decide +kernel), ?_⟩
  refine List.forall_mem_cons.mpr ⟨sn_aload_n (k := 0) (by decide +kernel), ?_⟩
  refine List.forall_mem_cons.mpr ⟨sn_getf (by decide +kernel) rfl tbX3 (by decide) tw_127, ?_⟩
  refine List.forall_mem_cons.mpr ⟨⟨i_25, rfl, mk_callV (by decide) (by decide) cv_25 (Or.inl tw_356) rfl (by decide +kernel)⟩, ?_⟩
  refine List.forall_mem_cons.mpr ⟨sn_icmp_ge (off := 54) (by decide +kernel) (by decide), ?_⟩
  refine List.forall_mem_cons.mpr ⟨sn_aload_n (k := 0) (by decide +kernel), ?_⟩
  refine List.forall_mem_cons.mpr ⟨sn_getf (by decide +kernel) rfl tbX3 (by decide) tw_127, ?_⟩
  refine List.forall_mem_cons.mpr ⟨sn_iload_n (k := 1) (by decide +kernel), ?_⟩
  refine List.forall_mem_cons.mpr ⟨⟨i_26, rfl, mk_callV (by decide) (by decide) cv_26 (Or.inl tw_361) rfl (by decide +kernel)⟩, ?_⟩
  refine List.forall_mem_cons.mpr ⟨sn_bipush (k := 13) (by decide +kernel) (by decide), ?_⟩
  refine List.forall_mem_cons.mpr ⟨sn_icmp_ne (off := 35) (by decide +kernel) (by decide), ?_⟩
  refine List.forall_mem_cons.mpr ⟨sn_aload_n (k := 0) (by decide +kernel), ?_⟩
  refine List.forall_mem_cons.mpr ⟨sn_getf (by decide +kernel) rfl tbX3 (by decide) tw_127, ?_⟩
  refine List.forall_mem_cons.mpr ⟨sn_iload_n (k := 1) (by decide +kernel), ?_⟩
  refine List.forall_mem_cons.mpr ⟨⟨i_27, rfl, mk_callV (by decide) (by decide) cv_27 (Or.inl tw_371) rfl (by decide +kernel)⟩, ?_⟩
  refine List.forall_mem_cons.mpr ⟨sn_istore_n (k := 2) (by decide +kernel) (by decide), ?_⟩
  refine List.forall_mem_cons.mpr ⟨sn_aload_n (k := 0) (by decide +kernel), ?_⟩
  refine List.forall_mem_cons.mpr ⟨sn_getf (by decide +kernel) rfl tbX3 (by decide) tw_128, ?_⟩
  refine List.forall_mem_cons.mpr ⟨sn_iload_n (k := 2) (by decide +kernel), ?_⟩
  refine List.forall_mem_cons.mpr ⟨⟨i_3, rfl, mk_callV (by decide) (by decide) cv_3 (Or.inl tw_380) rfl (by decide +kernel)⟩, ?_⟩
  refine List.forall_mem_cons.mpr ⟨sn_iconst (k := (-1)) (by decide +kernel) (by decide), ?_⟩
  refine List.forall_mem_cons.mpr ⟨sn_icmp_eq (off := 5) (by decide +kernel) (by decide), ?_⟩
  refine List.forall_mem_cons.mpr ⟨sn_iconst (k := 0) (by decide +kernel) (by decide), ?_⟩
  refine List.forall_mem_cons.mpr ⟨⟨rfl, (by decide +kernel : decode prog_5_method_7_code 58 = .ok (.ireturn, 1))⟩, ?_⟩
  refine List.forall_mem_cons.mpr ⟨sn_aload_n (k := 0) (by decide +kernel), ?_⟩
  refine List.forall_mem_cons.mpr ⟨sn_getf (by decide +kernel) rfl tbX3 (by decide) tw_128, ?_⟩
  refine List.forall_mem_cons.mpr ⟨sn_iload_n (k := 2) (by decide +kernel), ?_⟩
  refine List.forall_mem_cons.mpr ⟨sn_iload_n (k := 1) (by decide +kernel), ?_⟩
  refine List.forall_mem_cons.mpr ⟨⟨i_4, rfl, mk_callV (by decide) (by decide) cv_4 (Or.inl tw_381) rfl (by decide +kernel)⟩, ?_⟩
  refine List.forall_mem_cons.mpr ⟨sn_iinc (d := 1) (by decide +kernel) (by decide) (by decide), ?_⟩
  refine List.forall_mem_cons.mpr ⟨sn_goto (off := (-59)) (by decide +kernel) (by decide), ?_⟩
  refine List.forall_mem_cons.mpr ⟨sn_iconst (k := 1) (by decide +kernel) (by decide), ?_⟩
  refine List.forall_mem_cons.mpr ⟨⟨rfl, (by decide +kernel : decode prog_5_method_7_code 75 = .ok (.ireturn, 1))⟩, ?_⟩
  exact fun _ h => absurd h List.not_mem_nil
set_option maxRecDepth 20000 in
theorem ok_61 : ∀ q ∈ mt_61, mx_ok mx_I0 i_61 q.1 q.2 := by
  refine List.forall_mem_cons.mpr ⟨sn_iconst (k := 0) (by decide +kernel) (by decide), ?_⟩
  refine List.forall_mem_cons.mpr ⟨sn_istore_n (k := 1) (by decide +kernel) (by decide), ?_⟩
  refine List.forall_mem_cons.mpr ⟨sn_iload_n (k := 1) (by decide +kernel), ?_⟩
  refine List.forall_mem_cons.mpr ⟨sn_aload_n (k := 0) (by decide +kernel), ?_⟩
  refine List.forall_mem_cons.mpr ⟨sn_getf (by decide +kernel) rfl tbX3 (by decide) tw_127, ?_⟩
  refine List.forall_mem_cons.mpr ⟨⟨i_25, rfl, mk_callV (by decide) (by decide) cv_25 (Or.inl tw_356) rfl (by decide +kernel)⟩, ?_⟩
  refine List.forall_mem_cons.mpr ⟨sn_icmp_ge (off := 69) (by decide +kernel) (by decide), ?_⟩
  refine List.forall_mem_cons.mpr ⟨sn_aload_n (k := 0) (by decide +kernel), ?_⟩
  refine List.forall_mem_cons.mpr ⟨sn_getf (by decide +kernel) rfl tbX3 (by decide) tw_127, ?_⟩
  refine List.forall_mem_cons.mpr ⟨sn_iload_n (k := 1) (by decide +kernel), ?_⟩
  refine List.forall_mem_cons.mpr ⟨⟨i_26, rfl, mk_callV (by decide) (by decide) cv_26 (Or.inl tw_361) rfl (by decide +kernel)⟩, ?_⟩
  refine List.forall_mem_cons.mpr ⟨sn_istore_n (k := 2) (by decide +kernel) (by decide), ?_⟩
  refine List.forall_mem_cons.mpr ⟨sn_iload_n (k := 2) (by decide +kernel), ?_⟩
  refine List.forall_mem_cons.mpr ⟨⟨i_114, rfl, mk_callS (by decide) (by decide) cs_114 (Or.inr ⟨_, tw_389⟩) (by decide +kernel)⟩, ?_⟩
  refine List.forall_mem_cons.mpr ⟨sn_if_eq (off := 24) (by decide +kernel) (by decide), ?_⟩
  refine List.forall_mem_cons.mpr ⟨sn_aload_n (k := 0) (by decide +kernel), ?_⟩
  refine List.forall_mem_cons.mpr ⟨sn_getf (by decide +kernel) rfl tbX3 (by decide) tw_128, ?_⟩
  refine List.forall_mem_cons.mpr ⟨sn_aload_n (k := 0) (by decide +kernel), ?_⟩
  refine List.forall_mem_cons.mpr ⟨sn_getf (by decide +kernel) rfl tbX3 (by decide) tw_127, ?_⟩
  refine List.forall_mem_cons.mpr ⟨sn_iload_n (k := 1) (by decide +kernel), ?_⟩
  refine List.forall_mem_cons.mpr ⟨⟨i_27, rfl, mk_callV (by decide) (by decide) cv_27 (Or.inl tw_371) rfl (by decide +kernel)⟩, ?_⟩
  refine List.forall_mem_cons.mpr ⟨⟨i_3, rfl, mk_callV (by decide) (by decide) cv_3 (Or.inl tw_380) rfl (by decide +kernel)⟩, ?_⟩
  refine List.forall_mem_cons.mpr ⟨sn_iconst (k := (-1)) (by decide +kernel) (by decide), ?_⟩
  refine List.forall_mem_cons.mpr ⟨sn_icmp_ne (off := 5) (by decide +kernel) (by decide), ?_⟩
  refine List.forall_mem_cons.mpr ⟨sn_iconst (k := 0) (by decide +kernel) (by decide), ?_⟩
  refine List.forall_mem_cons.mpr ⟨⟨rfl, (by decide +kernel : decode prog_5_method_8_code 49 = .ok (.ireturn, 1))⟩, ?_⟩
  refine List.forall_mem_cons.mpr ⟨sn_iload_n (k := 2) (by decide +kernel), ?_⟩
  refine List.forall_mem_cons.mpr ⟨sn_bipush (k := 18) (by decide +kernel) (by decide), ?_⟩
  refine List.forall_mem_cons.mpr ⟨sn_icmp_ne (off := 20) (by decide +kernel) (by decide), ?_⟩
  refine List.forall_mem_cons.mpr ⟨sn_aload_n (k := 0) (by decide +kernel), ?_⟩
  refine List.forall_mem_cons.mpr ⟨sn_getf (by decide +kernel) rfl tbX3 (by decide) tw_127, ?_⟩
  refine List.forall_mem_cons.mpr ⟨sn_iload_n (k := 1) (by decide +kernel), ?_⟩
  refine List.forall_mem_cons.mpr ⟨sn_iconst (k := 1) (by decide +kernel) (by decide), ?_⟩
  refine List.forall_mem_cons.mpr ⟨sn_iadd (by decide +kernel), ?_⟩
  refine List.forall_mem_cons.mpr ⟨⟨i_26, rfl, mk_callV (by decide) (by decide) cv_26 (Or.inl tw_361) rfl (by decide +kernel)⟩, ?_⟩
  refine List.forall_mem_cons.mpr ⟨sn_bipush (k := 12) (by decide +kernel) (by decide), ?_⟩
  refine List.forall_mem_cons.mpr ⟨sn_icmp_eq (off := 5) (by decide +kernel) (by decide), ?_⟩
  refine List.forall_mem_cons.mpr ⟨sn_iconst (k := 0) (by decide +kernel) (by decide), ?_⟩
  refine List.forall_mem_cons.mpr ⟨⟨rfl, (by decide +kernel : decode prog_5_method_8_code 72 = .ok (.ireturn, 1))⟩, ?_⟩
  refine List.forall_mem_cons.mpr ⟨sn_iinc (d := 1) (by decide +kernel) (by decide) (by decide), ?_⟩
  refine List.forall_mem_cons.mpr ⟨sn_goto (off := (-74)) (by decide +kernel) (by decide), ?_⟩
  refine List.forall_mem_cons.mpr ⟨sn_iconst (k := 1) (by decide +kernel) (by decide), ?_⟩
  refine List.forall_mem_cons.mpr ⟨⟨rfl, (by decide +kernel : decode prog_5_method_8_code 80 = .ok (.ireturn, 1))⟩, ?_⟩
  exact fun _ h => absurd h List.not_mem_nil
set_option maxRecDepth 20000 in
theorem ok_62 : ∀ q ∈ mt_62, mx_ok mx_I0 i_62 q.1 q.2 := by
  refine List.forall_mem_cons.mpr ⟨sn_aload_n (k := 0) (by decide +kernel), ?_⟩
  refine List.forall_mem_cons.mpr ⟨sn_getf (by decide +kernel) rfl tbX3 (by decide) tw_127, ?_⟩
  refine List.forall_mem_cons.mpr ⟨sn_iload_n (k := 1) (by decide +kernel), ?_⟩
  refine List.forall_mem_cons.mpr ⟨⟨i_26, rfl, mk_callV (by decide) (by decide) cv_26 (Or.inl tw_361) rfl (by decide +kernel)⟩, ?_⟩
  refine List.forall_mem_cons.mpr ⟨sn_istore_n (k := 2) (by decide +kernel) (by decide), ?_⟩
  refine List.forall_mem_cons.mpr ⟨sn_iload_n (k := 2) (by decide +kernel), ?_⟩
  refine List.forall_mem_cons.mpr ⟨⟨i_115, rfl, mk_callS (by decide) (by decide) cs_115 (Or.inr ⟨_, tw_422⟩) (by decide +kernel)⟩, ?_⟩
  refine List.forall_mem_cons.mpr ⟨sn_if_eq (off := 5) (by decide +kernel) (by decide), ?_⟩
  refine List.forall_mem_cons.mpr ⟨sn_iconst (k := (-1)) (by decide +kernel) (by decide), ?_⟩
  refine List.forall_mem_cons.mpr ⟨⟨rfl, (by decide +kernel : decode prog_5_method_9_code 17 = .ok (.ireturn, 1))⟩, ?_⟩
  refine List.forall_mem_cons.mpr ⟨sn_iload_n (k := 2) (by decide +kernel), ?_⟩
  refine List.forall_mem_cons.mpr ⟨sn_bipush (k := 18) (by decide +kernel) (by decide), ?_⟩
  refine List.forall_mem_cons.mpr ⟨sn_icmp_ne (off := 9) (by decide +kernel) (by decide), ?_⟩
  refine List.forall_mem_cons.mpr ⟨sn_iload_n (k := 1) (by decide +kernel), ?_⟩
  refine List.forall_mem_cons.mpr ⟨sn_iconst (k := 2) (by decide +kernel) (by decide), ?_⟩
  refine List.forall_mem_cons.mpr ⟨sn_iadd (by decide +kernel), ?_⟩
  refine List.forall_mem_cons.mpr ⟨sn_goto (off := 6) (by decide +kernel) (by decide), ?_⟩
  refine List.forall_mem_cons.mpr ⟨sn_iload_n (k := 1) (by decide +kernel), ?_⟩
  refine List.forall_mem_cons.mpr ⟨sn_iconst (k := 1) (by decide +kernel) (by decide), ?_⟩
  refine List.forall_mem_cons.mpr ⟨sn_iadd (by decide +kernel), ?_⟩
  refine List.forall_mem_cons.mpr ⟨⟨rfl, (by decide +kernel : decode prog_5_method_9_code 33 = .ok (.ireturn, 1))⟩, ?_⟩
  exact fun _ h => absurd h List.not_mem_nil
set_option maxRecDepth 20000 in
theorem ok_63 : ∀ q ∈ mt_63, mx_ok mx_I0 i_63 q.1 q.2 := by
  refine List.forall_mem_cons.mpr ⟨sn_aload_n (k := 0) (by decide +kernel), ?_⟩
  refine List.forall_mem_cons.mpr ⟨sn_getf (by decide +kernel) rfl tbX3 (by decide) tw_127, ?_⟩
  refine List.forall_mem_cons.mpr ⟨sn_iload_n (k := 1) (by decide +kernel), ?_⟩
  refine List.forall_mem_cons.mpr ⟨⟨i_26, rfl, mk_callV (by decide) (by decide) cv_26 (Or.inl tw_361) rfl (by decide +kernel)⟩, ?_⟩
  refine List.forall_mem_cons.mpr ⟨sn_istore_n (k := 2) (by decide +kernel) (by decide), ?_⟩
  refine List.forall_mem_cons.mpr ⟨sn_iload_n (k := 2) (by decide +kernel), ?_⟩
  refine List.forall_mem_cons.mpr ⟨sn_bipush (k := 18) (by decide +kernel) (by decide), ?_⟩
  refine List.forall_mem_cons.mpr ⟨sn_icmp_ne (off := 21) (by decide +kernel) (by decide), ?_⟩
  refine List.forall_mem_cons.mpr ⟨sn_aload_n (k := 0) (by decide +kernel), ?_⟩
  refine List.forall_mem_cons.mpr ⟨sn_getf (by decide +kernel) rfl tbX3 (by decide) tw_128, ?_⟩
  refine List.forall_mem_cons.mpr ⟨sn_aload_n (k := 0) (by decide +kernel), ?_⟩
  refine List.forall_mem_cons.mpr ⟨sn_getf (by decide +kernel) rfl tbX3 (by decide) tw_127, ?_⟩
  refine List.forall_mem_cons.mpr ⟨sn_iload_n (k := 1) (by decide +kernel), ?_⟩
  refine List.forall_mem_cons.mpr ⟨sn_iconst (k := 1) (by decide +kernel) (by decide), ?_⟩
  refine List.forall_mem_cons.mpr ⟨sn_iadd (by decide +kernel), ?_⟩
  refine List.forall_mem_cons.mpr ⟨⟨i_27, rfl, mk_callV (by decide) (by decide) cv_27 (Or.inl tw_371) rfl (by decide +kernel)⟩, ?_⟩
  refine List.forall_mem_cons.mpr ⟨⟨i_3, rfl, mk_callV (by decide) (by decide) cv_3 (Or.inl tw_380) rfl (by decide +kernel)⟩, ?_⟩
  refine List.forall_mem_cons.mpr ⟨⟨rfl, (by decide +kernel : decode prog_5_method_10_code 32 = .ok (.ireturn, 1))⟩, ?_⟩
  refine List.forall_mem_cons.mpr ⟨sn_iload_n (k := 2) (by decide +kernel), ?_⟩
  refine List.forall_mem_cons.mpr ⟨⟨i_114, rfl, mk_callS (by decide) (by decide) cs_114 (Or.inr ⟨_, tw_389⟩) (by decide +kernel)⟩, ?_⟩
  refine List.forall_mem_cons.mpr ⟨sn_if_eq (off := 21) (by decide +kernel) (by decide), ?_⟩
  refine List.forall_mem_cons.mpr ⟨sn_aload_n (k := 0) (by decide +kernel), ?_⟩
  refine List.forall_mem_cons.mpr ⟨sn_getf (by decide +kernel) rfl tbX3 (by decide) tw_128, ?_⟩
  refine List.forall_mem_cons.mpr ⟨sn_aload_n (k := 0) (by decide +kernel), ?_⟩
  refine List.forall_mem_cons.mpr ⟨sn_getf (by decide +kernel) rfl tbX3 (by decide) tw_127, ?_⟩
  refine List.forall_mem_cons.mpr ⟨sn_iload_n (k := 1) (by decide +kernel), ?_⟩
  refine List.forall_mem_cons.mpr ⟨⟨i_27, rfl, mk_callV (by decide) (by decide) cv_27 (Or.inl tw_371) rfl (by decide +kernel)⟩, ?_⟩
  refine List.forall_mem_cons.mpr ⟨⟨i_3, rfl, mk_callV (by decide) (by decide) cv_3 (Or.inl tw_380) rfl (by decide +kernel)⟩, ?_⟩
  refine List.forall_mem_cons.mpr ⟨sn_goto (off := 4) (by decide +kernel) (by decide), ?_⟩
  refine List.forall_mem_cons.mpr ⟨sn_iconst (k := (-1)) (by decide +kernel) (by decide), ?_⟩
  refine List.forall_mem_cons.mpr ⟨⟨rfl, (by decide +kernel : decode prog_5_method_10_code 59 = .ok (.ireturn, 1))⟩, ?_⟩
  exact fun _ h => absurd h List.not_mem_nil
set_option maxRecDepth 20000 in
theorem ok_64 : ∀ q ∈ mt_64, mx_ok mx_I0 i_64 q.1 q.2 := by
  refine List.forall_mem_cons.mpr ⟨sn_aload_n (k := 0) (by decide +kernel), ?_⟩
  refine List.forall_mem_cons.mpr ⟨sn_getf (by decide +kernel) rfl tbX3 (by decide) tw_129, ?_⟩
  refine List.forall_mem_cons.mpr ⟨sn_aload_n (k := 0) (by decide +kernel), ?_⟩
  refine List.forall_mem_cons.mpr ⟨sn_getf (by decide +kernel) rfl tbX3 (by decide) tw_127, ?_⟩
  refine List.forall_mem_cons.mpr ⟨⟨i_25, rfl, mk_callV (by decide) (by decide) cv_25 (Or.inl tw_356) rfl (by decide +kernel)⟩, ?_⟩
  refine List.forall_mem_cons.mpr ⟨sn_iconst (k := (-1)) (by decide +kernel) (by decide), ?_⟩
  refine List.forall_mem_cons.mpr ⟨⟨i_8, rfl, mk_callV (by decide) (by decide) cv_8 (Or.inl tw_379) rfl (by decide +kernel)⟩, ?_⟩
  refine List.forall_mem_cons.mpr ⟨sn_aload_n (k := 0) (by decide +kernel), ?_⟩
  refine List.forall_mem_cons.mpr ⟨sn_getf (by decide +kernel) rfl tbX3 (by decide) tw_131, ?_⟩
  refine List.forall_mem_cons.mpr ⟨sn_iconst (k := 0) (by decide +kernel) (by decide), ?_⟩
  refine List.forall_mem_cons.mpr ⟨⟨i_7, rfl, mk_callV (by decide) (by decide) cv_7 (Or.inl tw_399) rfl (by decide +kernel)⟩, ?_⟩
  refine List.forall_mem_cons.mpr ⟨sn_aload_n (k := 0) (by decide +kernel), ?_⟩
  refine List.forall_mem_cons.mpr ⟨sn_iconst (k := 0) (by decide +kernel) (by decide), ?_⟩
  refine List.forall_mem_cons.mpr ⟨sn_iconst (k := 0) (by decide +kernel) (by decide), ?_⟩
  refine List.forall_mem_cons.mpr ⟨⟨i_66, rfl, mk_callV (by decide) (by decide) cv_66 (Or.inl tw_400) rfl (by decide +kernel)⟩, ?_⟩
  refine List.forall_mem_cons.mpr ⟨sn_pop (by decide +kernel), ?_⟩
  refine List.forall_mem_cons.mpr ⟨sn_iconst (k := 0) (by decide +kernel) (by decide), ?_⟩
  refine List.forall_mem_cons.mpr ⟨sn_istore_n (k := 1) (by decide +kernel) (by decide), ?_⟩
  refine List.forall_mem_cons.mpr ⟨sn_iload_n (k := 1) (by decide +kernel), ?_⟩
  refine List.forall_mem_cons.mpr ⟨sn_aload_n (k := 0) (by decide +kernel), ?_⟩
  refine List.forall_mem_cons.mpr ⟨sn_getf (by decide +kernel) rfl tbX3 (by decide) tw_127, ?_⟩
  refine List.forall_mem_cons.mpr ⟨⟨i_25, rfl, mk_callV (by decide) (by decide) cv_25 (Or.inl tw_356) rfl (by decide +kernel)⟩, ?_⟩
  refine List.forall_mem_cons.mpr ⟨sn_icmp_ge (off := 35) (by decide +kernel) (by decide), ?_⟩
  refine List.forall_mem_cons.mpr ⟨sn_aload_n (k := 0) (by decide +kernel), ?_⟩
  refine List.forall_mem_cons.mpr ⟨sn_getf (by decide +kernel) rfl tbX3 (by decide) tw_131, ?_⟩
  refine List.forall_mem_cons.mpr ⟨⟨i_2, rfl, mk_callV (by decide) (by decide) cv_2 (Or.inl tw_404) rfl (by decide +kernel)⟩, ?_⟩
  refine List.forall_mem_cons.mpr ⟨sn_if_le (off := 25) (by decide +kernel) (by decide), ?_⟩
  refine List.forall_mem_cons.mpr ⟨sn_aload_n (k := 0) (by decide +kernel), ?_⟩
  refine List.forall_mem_cons.mpr ⟨sn_aload_n (k := 0) (by decide +kernel), ?_⟩
  refine List.forall_mem_cons.mpr ⟨sn_getf (by decide +kernel) rfl tbX3 (by decide) tw_131, ?_⟩
  refine List.forall_mem_cons.mpr ⟨⟨i_6, rfl, mk_callV (by decide) (by decide) cv_6 (Or.inl tw_406) rfl (by decide +kernel)⟩, ?_⟩
  refine List.forall_mem_cons.mpr ⟨⟨i_65, rfl, mk_callV (by decide) (by decide) cv_65 (Or.inl tw_410) rfl (by decide +kernel)⟩, ?_⟩
  refine List.forall_mem_cons.mpr ⟨sn_if_ne (off := 5) (by decide +kernel) (by decide), ?_⟩
  refine List.forall_mem_cons.mpr ⟨sn_iconst (k := 0) (by decide +kernel) (by decide), ?_⟩
  refine List.forall_mem_cons.mpr ⟨⟨rfl, (by decide +kernel : decode prog_5_method_11_code 68 = .ok (.ireturn, 1))⟩, ?_⟩
  refine List.forall_mem_cons.mpr ⟨sn_iinc (d := 1) (by decide +kernel) (by decide) (by decide), ?_⟩
  refine List.forall_mem_cons.mpr ⟨sn_goto (off := (-40)) (by decide +kernel) (by decide), ?_⟩
  refine List.forall_mem_cons.mpr ⟨sn_iconst (k := 1) (by decide +kernel) (by decide), ?_⟩
  refine List.forall_mem_cons.mpr ⟨⟨rfl, (by decide +kernel : decode prog_5_method_11_code 76 = .ok (.ireturn, 1))⟩, ?_⟩
  exact fun _ h => absurd h List.not_mem_nil
