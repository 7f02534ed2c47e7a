set_option maxRecDepth 20000 in
theorem ok_136 : ∀ q ∈ mt_136, mx_ok mx_I0 i_136 q.1 q.2 := by
  refine List.forall_mem_cons.mpr ⟨sn_iload_n (k := 1) (by decide +kernel), ?_⟩
  refine List.forall_mem_cons.mpr ⟨sn_table (df := 425) (offs := #[99, 106, 118, 130, 179, 215, 226, 238, 279, 311, 425, 425, 425, 425, 349, 425, 425, 425, 425, 356, 420]) (len := 99) (by decide +kernel) (by decide) (by decide), ?_⟩
  refine List.forall_mem_cons.mpr ⟨sn_aload_n (k := 0) (by decide +kernel), ?_⟩
  refine List.forall_mem_cons.mpr ⟨sn_iload_n (k := 2) (by decide +kernel), ?_⟩
  refine List.forall_mem_cons.mpr ⟨⟨i_132, rfl, mk_callV (by decide) (by decide) cv_132 (Or.inl tw_962) rfl (by decide +kernel)⟩, ?_⟩
  refine List.forall_mem_cons.mpr ⟨sn_iconst (k := 0) (by decide +kernel) (by decide), ?_⟩
  refine List.forall_mem_cons.mpr ⟨⟨rfl, (by decide +kernel : decode prog_12_method_21_code 106 = .ok (.ireturn, 1))⟩, ?_⟩
  refine List.forall_mem_cons.mpr ⟨sn_aload_n (k := 0) (by decide +kernel), ?_⟩
  refine List.forall_mem_cons.mpr ⟨sn_aload_n (k := 0) (by decide +kernel), ?_⟩
  refine List.forall_mem_cons.mpr ⟨sn_getf (by decide +kernel) rfl tbX10 (by decide) tw_863, ?_⟩
  refine List.forall_mem_cons.mpr ⟨sn_iload_n (k := 2) (by decide +kernel), ?_⟩
  refine List.forall_mem_cons.mpr ⟨sn_iald (by decide +kernel), ?_⟩
  refine List.forall_mem_cons.mpr ⟨⟨i_132, rfl, mk_callV (by decide) (by decide) cv_132 (Or.inl tw_962) rfl (by decide +kernel)⟩, ?_⟩
  refine List.forall_mem_cons.mpr ⟨sn_iconst (k := 0) (by decide +kernel) (by decide), ?_⟩
  refine List.forall_mem_cons.mpr ⟨⟨rfl, (by decide +kernel : decode prog_12_method_21_code 118 = .ok (.ireturn, 1))⟩, ?_⟩
  refine List.forall_mem_cons.mpr ⟨sn_aload_n (k := 0) (by decide +kernel), ?_⟩
  refine List.forall_mem_cons.mpr ⟨sn_getf (by decide +kernel) rfl tbX10 (by decide) tw_863, ?_⟩
  refine List.forall_mem_cons.mpr ⟨sn_iload_n (k := 2) (by decide +kernel), ?_⟩
  refine List.forall_mem_cons.mpr ⟨sn_aload_n (k := 0) (by decide +kernel), ?_⟩
  refine List.forall_mem_cons.mpr ⟨⟨i_131, rfl, mk_callV (by decide) (by decide) cv_131 (Or.inl tw_954) rfl (by decide +kernel)⟩, ?_⟩
  refine List.forall_mem_cons.mpr ⟨sn_iast (by decide +kernel), ?_⟩
  refine List.forall_mem_cons.mpr ⟨sn_iconst (k := 0) (by decide +kernel) (by decide), ?_⟩
  refine List.forall_mem_cons.mpr ⟨⟨rfl, (by decide +kernel : decode prog_12_method_21_code 130 = .ok (.ireturn, 1))⟩, ?_⟩
  refine List.forall_mem_cons.mpr ⟨sn_aload_n (k := 0) (by decide +kernel), ?_⟩
  refine List.forall_mem_cons.mpr ⟨⟨i_131, rfl, mk_callV (by decide) (by decide) cv_131 (Or.inl tw_954) rfl (by decide +kernel)⟩, ?_⟩
  refine List.forall_mem_cons.mpr ⟨sn_istore (k := 5) (by decide +kernel) (by decide), ?_⟩
  refine List.forall_mem_cons.mpr ⟨sn_aload_n (k := 0) (by decide +kernel), ?_⟩
  refine List.forall_mem_cons.mpr ⟨sn_iload (k := 5) (by decide +kernel), ?_⟩
  refine List.forall_mem_cons.mpr ⟨sn_iconst (k := 0) (by decide +kernel) (by decide), ?_⟩
  refine List.forall_mem_cons.mpr ⟨sn_bipush (k := 63) (by decide +kernel) (by decide), ?_⟩
  refine List.forall_mem_cons.mpr ⟨⟨i_120, rfl, mk_callS (by decide) (by decide) cs_120 (Or.inl tw_920) (by decide +kernel)⟩, ?_⟩
  refine List.forall_mem_cons.mpr ⟨sn_if_eq (off := 13) (by decide +kernel) (by decide), ?_⟩
  refine List.forall_mem_cons.mpr ⟨sn_aload_n (k := 0) (by decide +kernel), ?_⟩
  refine List.forall_mem_cons.mpr ⟨sn_getf (by decide +kernel) rfl tbX10 (by decide) tw_864, ?_⟩
  refine List.forall_mem_cons.mpr ⟨sn_iload (k := 5) (by decide +kernel), ?_⟩
  refine List.forall_mem_cons.mpr ⟨sn_iald (by decide +kernel), ?_⟩
  refine List.forall_mem_cons.mpr ⟨sn_goto (off := 4) (by decide +kernel) (by decide), ?_⟩
  refine List.forall_mem_cons.mpr ⟨sn_iconst (k := 0) (by decide +kernel) (by decide), ?_⟩
  refine List.forall_mem_cons.mpr ⟨⟨i_132, rfl, mk_callV (by decide) (by decide) cv_132 (Or.inl tw_962) rfl (by decide +kernel)⟩, ?_⟩
  refine List.forall_mem_cons.mpr ⟨sn_iload (k := 5) (by decide +kernel), ?_⟩
  refine List.forall_mem_cons.mpr ⟨sn_iconst (k := 0) (by decide +kernel) (by decide), ?_⟩
  refine List.forall_mem_cons.mpr ⟨sn_bipush (k := 63) (by decide +kernel) (by decide), ?_⟩
  refine List.forall_mem_cons.mpr ⟨⟨i_120, rfl, mk_callS (by decide) (by decide) cs_120 (Or.inl tw_920) (by decide +kernel)⟩, ?_⟩
  refine List.forall_mem_cons.mpr ⟨sn_if_eq (off := 7) (by decide +kernel) (by decide), ?_⟩
  refine List.forall_mem_cons.mpr ⟨sn_iconst (k := 0) (by decide +kernel) (by decide), ?_⟩
  refine List.forall_mem_cons.mpr ⟨sn_goto (off := 4) (by decide +kernel) (by decide), ?_⟩
  refine List.forall_mem_cons.mpr ⟨sn_iconst (k := 2) (by decide +kernel) (by decide), ?_⟩
  refine List.forall_mem_cons.mpr ⟨⟨rfl, (by decide +kernel : decode prog_12_method_21_code 179 = .ok (.ireturn, 1))⟩, ?_⟩
  refine List.forall_mem_cons.mpr ⟨sn_aload_n (k := 0) (by decide +kernel), ?_⟩
  refine List.forall_mem_cons.mpr ⟨⟨i_131, rfl, mk_callV (by decide) (by decide) cv_131 (Or.inl tw_954) rfl (by decide +kernel)⟩, ?_⟩
  refine List.forall_mem_cons.mpr ⟨sn_istore (k := 5) (by decide +kernel) (by decide), ?_⟩
  refine List.forall_mem_cons.mpr ⟨sn_aload_n (k := 0) (by decide +kernel), ?_⟩
  refine List.forall_mem_cons.mpr ⟨⟨i_131, rfl, mk_callV (by decide) (by decide) cv_131 (Or.inl tw_954) rfl (by decide +kernel)⟩, ?_⟩
  refine List.forall_mem_cons.mpr ⟨sn_istore (k := 6) (by decide +kernel) (by decide), ?_⟩
  refine List.forall_mem_cons.mpr ⟨sn_iload (k := 5) (by decide +kernel), ?_⟩
  refine List.forall_mem_cons.mpr ⟨sn_iconst (k := 0) (by decide +kernel) (by decide), ?_⟩
  refine List.forall_mem_cons.mpr ⟨sn_bipush (k := 63) (by decide +kernel) (by decide), ?_⟩
  refine List.forall_mem_cons.mpr ⟨⟨i_120, rfl, mk_callS (by decide) (by decide) cs_120 (Or.inl tw_920) (by decide +kernel)⟩, ?_⟩
  refine List.forall_mem_cons.mpr ⟨sn_if_ne (off := 5) (by decide +kernel) (by decide), ?_⟩
  refine List.forall_mem_cons.mpr ⟨sn_iconst (k := 2) (by decide +kernel) (by decide), ?_⟩
  refine List.forall_mem_cons.mpr ⟨⟨rfl, (by decide +kernel : decode prog_12_method_21_code 204 = .ok (.ireturn, 1))⟩, ?_⟩
  refine List.forall_mem_cons.mpr ⟨sn_aload_n (k := 0) (by decide +kernel), ?_⟩
  refine List.forall_mem_cons.mpr ⟨sn_getf (by decide +kernel) rfl tbX10 (by decide) tw_864, ?_⟩
  refine List.forall_mem_cons.mpr ⟨sn_iload (k := 5) (by decide +kernel), ?_⟩
  refine List.forall_mem_cons.mpr ⟨sn_iload (k := 6) (by decide +kernel), ?_⟩
  refine List.forall_mem_cons.mpr ⟨sn_iast (by decide +kernel), ?_⟩
  refine List.forall_mem_cons.mpr ⟨sn_iconst (k := 0) (by decide +kernel) (by decide), ?_⟩
  refine List.forall_mem_cons.mpr ⟨⟨rfl, (by decide +kernel : decode prog_12_method_21_code 215 = .ok (.ireturn, 1))⟩, ?_⟩
  refine List.forall_mem_cons.mpr ⟨sn_aload_n (k := 0) (by decide +kernel), ?_⟩
  refine List.forall_mem_cons.mpr ⟨sn_aload_n (k := 0) (by decide +kernel), ?_⟩
  refine List.forall_mem_cons.mpr ⟨⟨i_131, rfl, mk_callV (by decide) (by decide) cv_131 (Or.inl tw_954) rfl (by decide +kernel)⟩, ?_⟩
  refine List.forall_mem_cons.mpr ⟨sn_ineg (by decide +kernel), ?_⟩
  refine List.forall_mem_cons.mpr ⟨⟨i_132, rfl, mk_callV (by decide) (by decide) cv_132 (Or.inl tw_962) rfl (by decide +kernel)⟩, ?_⟩
  refine List.forall_mem_cons.mpr ⟨sn_iconst (k := 0) (by decide +kernel) (by decide), ?_⟩
  refine List.forall_mem_cons.mpr ⟨⟨rfl, (by decide +kernel : decode prog_12_method_21_code 226 = .ok (.ireturn, 1))⟩, ?_⟩
  refine List.forall_mem_cons.mpr ⟨sn_aload_n (k := 0) (by decide +kernel), ?_⟩
  refine List.forall_mem_cons.mpr ⟨sn_aload_n (k := 0) (by decide +kernel), ?_⟩
  refine List.forall_mem_cons.mpr ⟨⟨i_131, rfl, mk_callV (by decide) (by decide) cv_131 (Or.inl tw_954) rfl (by decide +kernel)⟩, ?_⟩
  refine List.forall_mem_cons.mpr ⟨sn_iconst (k := (-1)) (by decide +kernel) (by decide), ?_⟩
  refine List.forall_mem_cons.mpr ⟨sn_ixor (by decide +kernel), ?_⟩
  refine List.forall_mem_cons.mpr ⟨⟨i_132, rfl, mk_callV (by decide) (by decide) cv_132 (Or.inl tw_962) rfl (by decide +kernel)⟩, ?_⟩
  refine List.forall_mem_cons.mpr ⟨sn_iconst (k := 0) (by decide +kernel) (by decide), ?_⟩
  refine List.forall_mem_cons.mpr ⟨⟨rfl, (by decide +kernel : decode prog_12_method_21_code 238 = .ok (.ireturn, 1))⟩, ?_⟩
  refine List.forall_mem_cons.mpr ⟨sn_aload_n (k := 0) (by decide +kernel), ?_⟩
  refine List.forall_mem_cons.mpr ⟨⟨i_131, rfl, mk_callV (by decide) (by decide) cv_131 (Or.inl tw_954) rfl (by decide +kernel)⟩, ?_⟩
  refine List.forall_mem_cons.mpr ⟨sn_istore (k := 4) (by decide +kernel) (by decide), ?_⟩
  refine List.forall_mem_cons.mpr ⟨sn_aload_n (k := 0) (by decide +kernel), ?_⟩
  refine List.forall_mem_cons.mpr ⟨⟨i_131, rfl, mk_callV (by decide) (by decide) cv_131 (Or.inl tw_954) rfl (by decide +kernel)⟩, ?_⟩
  refine List.forall_mem_cons.mpr ⟨sn_istore_n (k := 3) (by decide +kernel) (by decide), ?_⟩
  refine List.forall_mem_cons.mpr ⟨sn_iload_n (k := 2) (by decide +kernel), ?_⟩
  refine List.forall_mem_cons.mpr ⟨sn_iconst (k := 3) (by decide +kernel) (by decide), ?_⟩
  refine List.forall_mem_cons.mpr ⟨sn_icmp_eq (off := 8) (by decide +kernel) (by decide), ?_⟩
  refine List.forall_mem_cons.mpr ⟨sn_iload_n (k := 2) (by decide +kernel), ?_⟩
  refine List.forall_mem_cons.mpr ⟨sn_iconst (k := 4) (by decide +kernel) (by decide), ?_⟩
  refine List.forall_mem_cons.mpr ⟨sn_icmp_ne (off := 10) (by decide +kernel) (by decide), ?_⟩
  refine List.forall_mem_cons.mpr ⟨sn_iload (k := 4) (by decide +kernel), ?_⟩
  refine List.forall_mem_cons.mpr ⟨sn_if_ne (off := 5) (by decide +kernel) (by decide), ?_⟩
  refine List.forall_mem_cons.mpr ⟨sn_iconst (k := 3) (by decide +kernel) (by decide), ?_⟩
  refine List.forall_mem_cons.mpr ⟨⟨rfl, (by decide +kernel : decode prog_12_method_21_code 266 = .ok (.ireturn, 1))⟩, ?_⟩
  refine List.forall_mem_cons.mpr ⟨sn_aload_n (k := 0) (by decide +kernel), ?_⟩
  refine List.forall_mem_cons.mpr ⟨sn_iload_n (k := 2) (by decide +kernel), ?_⟩
  refine List.forall_mem_cons.mpr ⟨sn_iload_n (k := 3) (by decide +kernel), ?_⟩
  refine List.forall_mem_cons.mpr ⟨sn_iload (k := 4) (by decide +kernel), ?_⟩
  refine List.forall_mem_cons.mpr ⟨⟨i_133, rfl, mk_callS (by decide) (by decide) cs_133 (Or.inl tw_966) (by decide +kernel)⟩, ?_⟩
  refine List.forall_mem_cons.mpr ⟨⟨i_132, rfl, mk_callV (by decide) (by decide) cv_132 (Or.inl tw_962) rfl (by decide +kernel)⟩, ?_⟩
  refine List.forall_mem_cons.mpr ⟨sn_iconst (k := 0) (by decide +kernel) (by decide), ?_⟩
  refine List.forall_mem_cons.mpr ⟨⟨rfl, (by decide +kernel : decode prog_12_method_21_code 279 = .ok (.ireturn, 1))⟩, ?_⟩
  refine List.forall_mem_cons.mpr ⟨sn_aload_n (k := 0) (by decide +kernel), ?_⟩
  refine List.forall_mem_cons.mpr ⟨⟨i_131, rfl, mk_callV (by decide) (by decide) cv_131 (Or.inl tw_954) rfl (by decide +kernel)⟩, ?_⟩
  refine List.forall_mem_cons.mpr ⟨sn_istore (k := 4) (by decide +kernel) (by decide), ?_⟩
  refine List.forall_mem_cons.mpr ⟨sn_aload_n (k := 0) (by decide +kernel), ?_⟩
  refine List.forall_mem_cons.mpr ⟨⟨i_131, rfl, mk_callV (by decide) (by decide) cv_131 (Or.inl tw_954) rfl (by decide +kernel)⟩, ?_⟩
  refine List.forall_mem_cons.mpr ⟨sn_istore_n (k := 3) (by decide +kernel) (by decide), ?_⟩
  refine List.forall_mem_cons.mpr ⟨sn_aload_n (k := 0) (by decide +kernel), ?_⟩
  refine List.forall_mem_cons.mpr ⟨sn_iload_n (k := 2) (by decide +kernel), ?_⟩
  refine List.forall_mem_cons.mpr ⟨sn_iload_n (k := 3) (by decide +kernel), ?_⟩
  refine List.forall_mem_cons.mpr ⟨sn_iload (k := 4) (by decide +kernel), ?_⟩
  refine List.forall_mem_cons.mpr ⟨⟨i_134, rfl, mk_callS (by decide) (by decide) cs_134 (Or.inl tw_969) (by decide +kernel)⟩, ?_⟩
  refine List.forall_mem_cons.mpr ⟨sn_if_eq (off := 7) (by decide +kernel) (by decide), ?_⟩
  refine List.forall_mem_cons.mpr ⟨sn_iconst (k := (-1)) (by decide +kernel) (by decide), ?_⟩
  refine List.forall_mem_cons.mpr ⟨sn_goto (off := 4) (by decide +kernel) (by decide), ?_⟩
  refine List.forall_mem_cons.mpr ⟨sn_iconst (k := 0) (by decide +kernel) (by decide), ?_⟩
  refine List.forall_mem_cons.mpr ⟨⟨i_132, rfl, mk_callV (by decide) (by decide) cv_132 (Or.inl tw_962) rfl (by decide +kernel)⟩, ?_⟩
  refine List.forall_mem_cons.mpr ⟨sn_iconst (k := 0) (by decide +kernel) (by decide), ?_⟩
  refine List.forall_mem_cons.mpr ⟨⟨rfl, (by decide +kernel : decode prog_12_method_21_code 311 = .ok (.ireturn, 1))⟩, ?_⟩
  refine List.forall_mem_cons.mpr ⟨sn_aload_n (k := 0) (by decide +kernel), ?_⟩
  refine List.forall_mem_cons.mpr ⟨⟨i_131, rfl, mk_callV (by decide) (by decide) cv_131 (Or.inl tw_954) rfl (by decide +kernel)⟩, ?_⟩
  refine List.forall_mem_cons.mpr ⟨sn_istore (k := 4) (by decide +kernel) (by decide), ?_⟩
  refine List.forall_mem_cons.mpr ⟨sn_aload_n (k := 0) (by decide +kernel), ?_⟩
  refine List.forall_mem_cons.mpr ⟨⟨i_131, rfl, mk_callV (by decide) (by decide) cv_131 (Or.inl tw_954) rfl (by decide +kernel)⟩, ?_⟩
  refine List.forall_mem_cons.mpr ⟨sn_istore_n (k := 3) (by decide +kernel) (by decide), ?_⟩
  refine List.forall_mem_cons.mpr ⟨sn_aload_n (k := 0) (by decide +kernel), ?_⟩
  refine List.forall_mem_cons.mpr ⟨sn_iload (k := 4) (by decide +kernel), ?_⟩
  refine List.forall_mem_cons.mpr ⟨⟨i_132, rfl, mk_callV (by decide) (by decide) cv_132 (Or.inl tw_962) rfl (by decide +kernel)⟩, ?_⟩
  refine List.forall_mem_cons.mpr ⟨sn_aload_n (k := 0) (by decide +kernel), ?_⟩
  refine List.forall_mem_cons.mpr ⟨sn_iload_n (k := 2) (by decide +kernel), ?_⟩
  refine List.forall_mem_cons.mpr ⟨sn_iload_n (k := 3) (by decide +kernel), ?_⟩
  refine List.forall_mem_cons.mpr ⟨sn_iload (k := 4) (by decide +kernel), ?_⟩
  refine List.forall_mem_cons.mpr ⟨⟨i_134, rfl, mk_callS (by decide) (by decide) cs_134 (Or.inl tw_969) (by decide +kernel)⟩, ?_⟩
  refine List.forall_mem_cons.mpr ⟨sn_if_eq (off := 7) (by decide +kernel) (by decide), ?_⟩
  refine List.forall_mem_cons.mpr ⟨sn_iconst (k := (-1)) (by decide +kernel) (by decide), ?_⟩
  refine List.forall_mem_cons.mpr ⟨sn_goto (off := 4) (by decide +kernel) (by decide), ?_⟩
  refine List.forall_mem_cons.mpr ⟨sn_iconst (k := 0) (by decide +kernel) (by decide), ?_⟩
  refine List.forall_mem_cons.mpr ⟨⟨i_132, rfl, mk_callV (by decide) (by decide) cv_132 (Or.inl tw_962) rfl (by decide +kernel)⟩, ?_⟩
  refine List.forall_mem_cons.mpr ⟨sn_iconst (k := 0) (by decide +kernel) (by decide), ?_⟩
  refine List.forall_mem_cons.mpr ⟨⟨rfl, (by decide +kernel : decode prog_12_method_21_code 349 = .ok (.ireturn, 1))⟩, ?_⟩
  refine List.forall_mem_cons.mpr ⟨sn_aload_n (k := 0) (by decide +kernel), ?_⟩
  refine List.forall_mem_cons.mpr ⟨⟨i_131, rfl, mk_callV (by decide) (by decide) cv_131 (Or.inl tw_954) rfl (by decide +kernel)⟩, ?_⟩
  refine List.forall_mem_cons.mpr ⟨sn_pop (by decide +kernel), ?_⟩
  refine List.forall_mem_cons.mpr ⟨sn_iconst (k := 0) (by decide +kernel) (by decide), ?_⟩
  refine List.forall_mem_cons.mpr ⟨⟨rfl, (by decide +kernel : decode prog_12_method_21_code 356 = .ok (.ireturn, 1))⟩, ?_⟩
  refine List.forall_mem_cons.mpr ⟨sn_aload_n (k := 0) (by decide +kernel), ?_⟩
  refine List.forall_mem_cons.mpr ⟨⟨i_131, rfl, mk_callV (by decide) (by decide) cv_131 (Or.inl tw_954) rfl (by decide +kernel)⟩, ?_⟩
  refine List.forall_mem_cons.mpr ⟨sn_istore (k := 4) (by decide +kernel) (by decide), ?_⟩
  refine List.forall_mem_cons.mpr ⟨sn_aload_n (k := 0) (by decide +kernel), ?_⟩
  refine List.forall_mem_cons.mpr ⟨⟨i_131, rfl, mk_callV (by decide) (by decide) cv_131 (Or.inl tw_954) rfl (by decide +kernel)⟩, ?_⟩
  refine List.forall_mem_cons.mpr ⟨sn_istore_n (k := 3) (by decide +kernel) (by decide), ?_⟩
  refine List.forall_mem_cons.mpr ⟨sn_iload_n (k := 3) (by decide +kernel), ?_⟩
  refine List.forall_mem_cons.mpr ⟨sn_iload (k := 4) (by decide +kernel), ?_⟩
  refine List.forall_mem_cons.mpr ⟨⟨i_135, rfl, mk_callS (by decide) (by decide) cs_135 (Or.inl tw_972) (by decide +kernel)⟩, ?_⟩
  refine List.forall_mem_cons.mpr ⟨sn_istore (k := 5) (by decide +kernel) (by decide), ?_⟩
  refine List.forall_mem_cons.mpr ⟨sn_aload_n (k := 0) (by decide +kernel), ?_⟩
  refine List.forall_mem_cons.mpr ⟨sn_iload (k := 5) (by decide +kernel), ?_⟩
  refine List.forall_mem_cons.mpr ⟨sn_iconst (k := (-1)) (by decide +kernel) (by decide), ?_⟩
  refine List.forall_mem_cons.mpr ⟨sn_icmp_ne (off := 7) (by decide +kernel) (by decide), ?_⟩
  refine List.forall_mem_cons.mpr ⟨sn_iconst (k := 0) (by decide +kernel) (by decide), ?_⟩
  refine List.forall_mem_cons.mpr ⟨sn_goto (off := 22) (by decide +kernel) (by decide), ?_⟩
  refine List.forall_mem_cons.mpr ⟨sn_aload_n (k := 0) (by decide +kernel), ?_⟩
  refine List.forall_mem_cons.mpr ⟨sn_getf (by decide +kernel) rfl tbX10 (by decide) tw_864, ?_⟩
  refine List.forall_mem_cons.mpr ⟨sn_iload (k := 5) (by decide +kernel), ?_⟩
  refine List.forall_mem_cons.mpr ⟨sn_iald (by decide +kernel), ?_⟩
  refine List.forall_mem_cons.mpr ⟨sn_bipush (k := 8) (by decide +kernel) (by decide), ?_⟩
  refine List.forall_mem_cons.mpr ⟨sn_iload (k := 4) (by decide +kernel), ?_⟩
  refine List.forall_mem_cons.mpr ⟨sn_iconst (k := 3) (by decide +kernel) (by decide), ?_⟩
  refine List.forall_mem_cons.mpr ⟨sn_iand (by decide +kernel), ?_⟩
  refine List.forall_mem_cons.mpr ⟨sn_imul (by decide +kernel), ?_⟩
  refine List.forall_mem_cons.mpr ⟨sn_ishr (by decide +kernel), ?_⟩
  refine List.forall_mem_cons.mpr ⟨sn_sipush (k := 255) (by decide +kernel) (by decide), ?_⟩
  refine List.forall_mem_cons.mpr ⟨sn_iand (by decide +kernel), ?_⟩
  refine List.forall_mem_cons.mpr ⟨⟨i_132, rfl, mk_callV (by decide) (by decide) cv_132 (Or.inl tw_962) rfl (by decide +kernel)⟩, ?_⟩
  refine List.forall_mem_cons.mpr ⟨sn_iload (k := 5) (by decide +kernel), ?_⟩
  refine List.forall_mem_cons.mpr ⟨sn_iconst (k := (-1)) (by decide +kernel) (by decide), ?_⟩
  refine List.forall_mem_cons.mpr ⟨sn_icmp_ne (off := 7) (by decide +kernel) (by decide), ?_⟩
  refine List.forall_mem_cons.mpr ⟨sn_iconst (k := 2) (by decide +kernel) (by decide), ?_⟩
  refine List.forall_mem_cons.mpr ⟨sn_goto (off := 4) (by decide +kernel) (by decide), ?_⟩
  refine List.forall_mem_cons.mpr ⟨sn_iconst (k := 0) (by decide +kernel) (by decide), ?_⟩
  refine List.forall_mem_cons.mpr ⟨⟨rfl, (by decide +kernel : decode prog_12_method_21_code 420 = .ok (.ireturn, 1))⟩, ?_⟩
  refine List.forall_mem_cons.mpr ⟨sn_aload_n (k := 0) (by decide +kernel), ?_⟩
  refine List.forall_mem_cons.mpr ⟨⟨i_137, rfl, mk_callV (by decide) (by decide) cv_137 (Or.inl tw_976) rfl (by decide +kernel)⟩, ?_⟩
  refine List.forall_mem_cons.mpr ⟨⟨rfl, (by decide +kernel : decode prog_12_method_21_code 425 = .ok (.ireturn, 1))⟩, ?_⟩
  refine List.forall_mem_cons.mpr ⟨sn_iconst (k := 0) (by decide +kernel) (by decide), ?_⟩
  refine List.forall_mem_cons.mpr ⟨⟨rfl, (by decide +kernel : decode prog_12_method_21_code 427 = .ok (.ireturn, 1))⟩, ?_⟩
  exact fun _ h => absurd h List.not_mem_nil
set_option maxRecDepth 20000 in
theorem ok_137 : ∀ q ∈ mt_137, mx_ok mx_I0 i_137 q.1 q.2 := by
  refine List.forall_mem_cons.mpr ⟨sn_aload_n (k := 0) (by decide +kernel), ?_⟩
  refine List.forall_mem_cons.mpr ⟨⟨i_131, rfl, mk_callV (by decide) (by decide) cv_131 (Or.inl tw_954) rfl (by decide +kernel)⟩, ?_⟩
  refine List.forall_mem_cons.mpr ⟨sn_istore_n (k := 1) (by decide +kernel) (by decide), ?_⟩
  refine List.forall_mem_cons.mpr ⟨sn_aload_n (k := 0) (by decide +kernel), ?_⟩
  refine List.forall_mem_cons.mpr ⟨⟨i_131, rfl, mk_callV (by decide) (by decide) cv_131 (Or.inl tw_954) rfl (by decide +kernel)⟩, ?_⟩
  refine List.forall_mem_cons.mpr ⟨sn_istore_n (k := 2) (by decide +kernel) (by decide), ?_⟩
  refine List.forall_mem_cons.mpr ⟨sn_aload_n (k := 0) (by decide +kernel), ?_⟩
  refine List.forall_mem_cons.mpr ⟨⟨i_131, rfl, mk_callV (by decide) (by decide) cv_131 (Or.inl tw_954) rfl (by decide +kernel)⟩, ?_⟩
  refine List.forall_mem_cons.mpr ⟨sn_istore_n (k := 3) (by decide +kernel) (by decide), ?_⟩
  refine List.forall_mem_cons.mpr ⟨sn_iload_n (k := 2) (by decide +kernel), ?_⟩
  refine List.forall_mem_cons.mpr ⟨sn_iload_n (k := 1) (by decide +kernel), ?_⟩
  refine List.forall_mem_cons.mpr ⟨⟨i_135, rfl, mk_callS (by decide) (by decide) cs_135 (Or.inl tw_972) (by decide +kernel)⟩, ?_⟩
  refine List.forall_mem_cons.mpr ⟨sn_istore (k := 4) (by decide +kernel) (by decide), ?_⟩
  refine List.forall_mem_cons.mpr ⟨sn_iload (k := 4) (by decide +kernel), ?_⟩
  refine List.forall_mem_cons.mpr ⟨sn_iconst (k := (-1)) (by decide +kernel) (by decide), ?_⟩
  refine List.forall_mem_cons.mpr ⟨sn_icmp_ne (off := 5) (by decide +kernel) (by decide), ?_⟩
  refine List.forall_mem_cons.mpr ⟨sn_iconst (k := 2) (by decide +kernel) (by decide), ?_⟩
  refine List.forall_mem_cons.mpr ⟨⟨rfl, (by decide +kernel : decode prog_12_method_22_code 29 = .ok (.ireturn, 1))⟩, ?_⟩
  refine List.forall_mem_cons.mpr ⟨sn_bipush (k := 8) (by decide +kernel) (by decide), ?_⟩
  refine List.forall_mem_cons.mpr ⟨sn_iload_n (k := 1) (by decide +kernel), ?_⟩
  refine List.forall_mem_cons.mpr ⟨sn_iconst (k := 3) (by decide +kernel) (by decide), ?_⟩
  refine List.forall_mem_cons.mpr ⟨sn_iand (by decide +kernel), ?_⟩
  refine List.forall_mem_cons.mpr ⟨sn_imul (by decide +kernel), ?_⟩
  refine List.forall_mem_cons.mpr ⟨sn_istore (k := 5) (by decide +kernel) (by decide), ?_⟩
  refine List.forall_mem_cons.mpr ⟨sn_aload_n (k := 0) (by decide +kernel), ?_⟩
  refine List.forall_mem_cons.mpr ⟨sn_getf (by decide +kernel) rfl tbX10 (by decide) tw_864, ?_⟩
  refine List.forall_mem_cons.mpr ⟨sn_iload (k := 4) (by decide +kernel), ?_⟩
  refine List.forall_mem_cons.mpr ⟨sn_aload_n (k := 0) (by decide +kernel), ?_⟩
  refine List.forall_mem_cons.mpr ⟨sn_getf (by decide +kernel) rfl tbX10 (by decide) tw_864, ?_⟩
  refine List.forall_mem_cons.mpr ⟨sn_iload (k := 4) (by decide +kernel), ?_⟩
  refine List.forall_mem_cons.mpr ⟨sn_iald (by decide +kernel), ?_⟩
  refine List.forall_mem_cons.mpr ⟨sn_sipush (k := 255) (by decide +kernel) (by decide), ?_⟩
  refine List.forall_mem_cons.mpr ⟨sn_iload (k := 5) (by decide +kernel), ?_⟩
  refine List.forall_mem_cons.mpr ⟨sn_ishl (by decide +kernel), ?_⟩
  refine List.forall_mem_cons.mpr ⟨sn_iconst (k := (-1)) (by decide +kernel) (by decide), ?_⟩
  refine List.forall_mem_cons.mpr ⟨sn_ixor (by decide +kernel), ?_⟩
  refine List.forall_mem_cons.mpr ⟨sn_iand (by decide +kernel), ?_⟩
  refine List.forall_mem_cons.mpr ⟨sn_iload_n (k := 3) (by decide +kernel), ?_⟩
  refine List.forall_mem_cons.mpr ⟨sn_sipush (k := 255) (by decide +kernel) (by decide), ?_⟩
  refine List.forall_mem_cons.mpr ⟨sn_iand (by decide +kernel), ?_⟩
  refine List.forall_mem_cons.mpr ⟨sn_iload (k := 5) (by decide +kernel), ?_⟩
  refine List.forall_mem_cons.mpr ⟨sn_ishl (by decide +kernel), ?_⟩
  refine List.forall_mem_cons.mpr ⟨sn_ior (by decide +kernel), ?_⟩
  refine List.forall_mem_cons.mpr ⟨sn_iast (by decide +kernel), ?_⟩
  refine List.forall_mem_cons.mpr ⟨sn_iconst (k := 0) (by decide +kernel) (by decide), ?_⟩
  refine List.forall_mem_cons.mpr ⟨⟨rfl, (by decide +kernel : decode prog_12_method_22_code 71 = .ok (.ireturn, 1))⟩, ?_⟩
  exact fun _ h => absurd h List.not_mem_nil
set_option maxRecDepth 20000 in
theorem ok_138 : ∀ q ∈ mt_138, mx_ok mx_I0 i_138 q.1 q.2 := by
  refine List.forall_mem_cons.mpr ⟨sn_aload_n (k := 0) (by decide +kernel), ?_⟩
  refine List.forall_mem_cons.mpr ⟨sn_getf (by decide +kernel) rfl tbX10 (by decide) tw_861, ?_⟩
  refine List.forall_mem_cons.mpr ⟨sn_iload_n (k := 1) (by decide +kernel), ?_⟩
  refine List.forall_mem_cons.mpr ⟨sn_iald (by decide +kernel), ?_⟩
  refine List.forall_mem_cons.mpr ⟨sn_istore_n (k := 2) (by decide +kernel) (by decide), ?_⟩
  refine List.forall_mem_cons.mpr ⟨sn_aload_n (k := 0) (by decide +kernel), ?_⟩
  refine List.forall_mem_cons.mpr ⟨sn_getf (by decide +kernel) rfl tbX10 (by decide) tw_862, ?_⟩
  refine List.forall_mem_cons.mpr ⟨sn_iload_n (k := 1) (by decide +kernel), ?_⟩
  refine List.forall_mem_cons.mpr ⟨sn_iald (by decide +kernel), ?_⟩
  refine List.forall_mem_cons.mpr ⟨sn_istore_n (k := 3) (by decide +kernel) (by decide), ?_⟩
  refine List.forall_mem_cons.mpr ⟨sn_iload_n (k := 2) (by decide +kernel), ?_⟩
  refine List.forall_mem_cons.mpr ⟨sn_bipush (k := 10) (by decide +kernel) (by decide), ?_⟩
  refine List.forall_mem_cons.mpr ⟨sn_icmp_ne (off := 9) (by decide +kernel) (by decide), ?_⟩
  refine List.forall_mem_cons.mpr ⟨sn_aload_n (k := 0) (by decide +kernel), ?_⟩
  refine List.forall_mem_cons.mpr ⟨sn_iload_n (k := 3) (by decide +kernel), ?_⟩
  refine List.forall_mem_cons.mpr ⟨⟨i_122, rfl, mk_callV (by decide) (by decide) cv_122 (Or.inl tw_923) rfl (by decide +kernel)⟩, ?_⟩
  refine List.forall_mem_cons.mpr ⟨⟨rfl, (by decide +kernel : decode prog_12_method_23_code 25 = .ok (.ireturn, 1))⟩, ?_⟩
  refine List.forall_mem_cons.mpr ⟨sn_iload_n (k := 2) (by decide +kernel), ?_⟩
  refine List.forall_mem_cons.mpr ⟨sn_bipush (k := 11) (by decide +kernel) (by decide), ?_⟩
  refine List.forall_mem_cons.mpr ⟨sn_icmp_eq (off := 9) (by decide +kernel) (by decide), ?_⟩
  refine List.forall_mem_cons.mpr ⟨sn_iload_n (k := 2) (by decide +kernel), ?_⟩
  refine List.forall_mem_cons.mpr ⟨sn_bipush (k := 12) (by decide +kernel) (by decide), ?_⟩
  refine List.forall_mem_cons.mpr ⟨sn_icmp_ne (off := 45) (by decide +kernel) (by decide), ?_⟩
  refine List.forall_mem_cons.mpr ⟨sn_aload_n (k := 0) (by decide +kernel), ?_⟩
  refine List.forall_mem_cons.mpr ⟨⟨i_131, rfl, mk_callV (by decide) (by decide) cv_131 (Or.inl tw_954) rfl (by decide +kernel)⟩, ?_⟩
  refine List.forall_mem_cons.mpr ⟨sn_istore (k := 4) (by decide +kernel) (by decide), ?_⟩
  refine List.forall_mem_cons.mpr ⟨sn_iload (k := 4) (by decide +kernel), ?_⟩
  refine List.forall_mem_cons.mpr ⟨sn_if_ne (off := 7) (by decide +kernel) (by decide), ?_⟩
  refine List.forall_mem_cons.mpr ⟨sn_iconst (k := 1) (by decide +kernel) (by decide), ?_⟩
  refine List.forall_mem_cons.mpr ⟨sn_goto (off := 4) (by decide +kernel) (by decide), ?_⟩
  refine List.forall_mem_cons.mpr ⟨sn_iconst (k := 0) (by decide +kernel) (by decide), ?_⟩
  refine List.forall_mem_cons.mpr ⟨sn_iload_n (k := 2) (by decide +kernel), ?_⟩
  refine List.forall_mem_cons.mpr ⟨sn_bipush (k := 11) (by decide +kernel) (by decide), ?_⟩
  refine List.forall_mem_cons.mpr ⟨sn_icmp_ne (off := 7) (by decide +kernel) (by decide), ?_⟩
  refine List.forall_mem_cons.mpr ⟨sn_iconst (k := 1) (by decide +kernel) (by decide), ?_⟩
  refine List.forall_mem_cons.mpr ⟨sn_goto (off := 4) (by decide +kernel) (by decide), ?_⟩
  refine List.forall_mem_cons.mpr ⟨sn_iconst (k := 0) (by decide +kernel) (by decide), ?_⟩
  refine List.forall_mem_cons.mpr ⟨sn_icmp_ne (off := 11) (by decide +kernel) (by decide), ?_⟩
  refine List.forall_mem_cons.mpr ⟨sn_aload_n (k := 0) (by decide +kernel), ?_⟩
  refine List.forall_mem_cons.mpr ⟨sn_iload_n (k := 3) (by decide +kernel), ?_⟩
  refine List.forall_mem_cons.mpr ⟨⟨i_122, rfl, mk_callV (by decide) (by decide) cv_122 (Or.inl tw_923) rfl (by decide +kernel)⟩, ?_⟩
  refine List.forall_mem_cons.mpr ⟨sn_goto (off := 6) (by decide +kernel) (by decide), ?_⟩
  refine List.forall_mem_cons.mpr ⟨sn_iload_n (k := 1) (by decide +kernel), ?_⟩
  refine List.forall_mem_cons.mpr ⟨sn_iconst (k := 1) (by decide +kernel) (by decide), ?_⟩
  refine List.forall_mem_cons.mpr ⟨sn_iadd (by decide +kernel), ?_⟩
  refine List.forall_mem_cons.mpr ⟨⟨rfl, (by decide +kernel : decode prog_12_method_23_code 79 = .ok (.ireturn, 1))⟩, ?_⟩
  refine List.forall_mem_cons.mpr ⟨sn_iload_n (k := 2) (by decide +kernel), ?_⟩
  refine List.forall_mem_cons.mpr ⟨sn_bipush (k := 18) (by decide +kernel) (by decide), ?_⟩
  refine List.forall_mem_cons.mpr ⟨sn_icmp_ne (off := 40) (by decide +kernel) (by decide), ?_⟩
  refine List.forall_mem_cons.mpr ⟨sn_aload_n (k := 0) (by decide +kernel), ?_⟩
  refine List.forall_mem_cons.mpr ⟨sn_getf (by decide +kernel) rfl tbX10 (by decide) tw_869, ?_⟩
  refine List.forall_mem_cons.mpr ⟨sn_aload_n (k := 0) (by decide +kernel), ?_⟩
  refine List.forall_mem_cons.mpr ⟨sn_getf (by decide +kernel) rfl tbX10 (by decide) tw_870, ?_⟩
  refine List.forall_mem_cons.mpr ⟨sn_iconst (k := 1) (by decide +kernel) (by decide), ?_⟩
  refine List.forall_mem_cons.mpr ⟨sn_isub (by decide +kernel), ?_⟩
  refine List.forall_mem_cons.mpr ⟨sn_iald (by decide +kernel), ?_⟩
  refine List.forall_mem_cons.mpr ⟨sn_iload_n (k := 3) (by decide +kernel), ?_⟩
  refine List.forall_mem_cons.mpr ⟨sn_icmp_eq (off := 7) (by decide +kernel) (by decide), ?_⟩
  refine List.forall_mem_cons.mpr ⟨sn_iload_n (k := 1) (by decide +kernel), ?_⟩
  refine List.forall_mem_cons.mpr ⟨sn_iconst (k := 2) (by decide +kernel) (by decide), ?_⟩
  refine List.forall_mem_cons.mpr ⟨sn_iadd (by decide +kernel), ?_⟩
  refine List.forall_mem_cons.mpr ⟨⟨rfl, (by decide +kernel : decode prog_12_method_23_code 104 = .ok (.ireturn, 1))⟩, ?_⟩
  refine List.forall_mem_cons.mpr ⟨sn_aload_n (k := 0) (by decide +kernel), ?_⟩
  refine List.forall_mem_cons.mpr ⟨⟨i_131, rfl, mk_callV (by decide) (by decide) cv_131 (Or.inl tw_954) rfl (by decide +kernel)⟩, ?_⟩
  refine List.forall_mem_cons.mpr ⟨sn_pop (by decide +kernel), ?_⟩
  refine List.forall_mem_cons.mpr ⟨sn_aload_n (k := 0) (by decide +kernel), ?_⟩
  refine List.forall_mem_cons.mpr ⟨sn_aload_n (k := 0) (by decide +kernel), ?_⟩
  refine List.forall_mem_cons.mpr ⟨sn_getf (by decide +kernel) rfl tbX10 (by decide) tw_862, ?_⟩
  refine List.forall_mem_cons.mpr ⟨sn_iload_n (k := 1) (by decide +kernel), ?_⟩
  refine List.forall_mem_cons.mpr ⟨sn_iconst (k := 1) (by decide +kernel) (by decide), ?_⟩
  refine List.forall_mem_cons.mpr ⟨sn_iadd (by decide +kernel), ?_⟩
  refine List.forall_mem_cons.mpr ⟨sn_iald (by decide +kernel), ?_⟩
  refine List.forall_mem_cons.mpr ⟨⟨i_122, rfl, mk_callV (by decide) (by decide) cv_122 (Or.inl tw_923) rfl (by decide +kernel)⟩, ?_⟩
  refine List.forall_mem_cons.mpr ⟨⟨rfl, (by decide +kernel : decode prog_12_method_23_code 122 = .ok (.ireturn, 1))⟩, ?_⟩
  refine List.forall_mem_cons.mpr ⟨sn_iload_n (k := 1) (by decide +kernel), ?_⟩
  refine List.forall_mem_cons.mpr ⟨sn_iconst (k := 1) (by decide +kernel) (by decide), ?_⟩
  refine List.forall_mem_cons.mpr ⟨sn_iadd (by decide +kernel), ?_⟩
  refine List.forall_mem_cons.mpr ⟨⟨rfl, (by decide +kernel : decode prog_12_method_23_code 126 = .ok (.ireturn, 1))⟩, ?_⟩
  exact fun _ h => absurd h List.not_mem_nil
set_option maxRecDepth 20000 in
theorem ok_139 : ∀ q ∈ mt_139, mx_ok mx_I0 i_139 q.1 q.2 := by
  refine List.forall_mem_cons.mpr ⟨sn_aload_n (k := 0) (by decide +kernel), ?_⟩
  refine List.forall_mem_cons.mpr ⟨sn_iconst (k := 0) (by decide +kernel) (by decide), ?_⟩
  refine List.forall_mem_cons.mpr ⟨sn_putf tyX10 (by decide +kernel) rfl tbX10 tyX10_ok nmX10 (by decide) tw_859 (Or.inl rfl) rfl, ?_⟩
  refine List.forall_mem_cons.mpr ⟨sn_iload_n (k := 1) (by decide +kernel), ?_⟩
  refine List.forall_mem_cons.mpr ⟨sn_iconst (k := 0) (by decide +kernel) (by decide), ?_⟩
  refine List.forall_mem_cons.mpr ⟨sn_sipush (k := 20000) (by decide +kernel) (by decide), ?_⟩
  refine List.forall_mem_cons.mpr ⟨⟨i_120, rfl, mk_callS (by decide) (by decide) cs_120 (Or.inl tw_920) (by decide +kernel)⟩, ?_⟩
  refine List.forall_mem_cons.mpr ⟨sn_if_eq (off := 10) (by decide +kernel) (by decide), ?_⟩
  refine List.forall_mem_cons.mpr ⟨sn_aload_n (k := 0) (by decide +kernel), ?_⟩
  refine List.forall_mem_cons.mpr ⟨⟨i_130, rfl, mk_callV (by decide) (by decide) cv_130 (Or.inl tw_953) rfl (by decide +kernel)⟩, ?_⟩
  refine List.forall_mem_cons.mpr ⟨sn_if_ne (off := 5) (by decide +kernel) (by decide), ?_⟩
  refine List.forall_mem_cons.mpr ⟨sn_iconst (k := (-1)) (by decide +kernel) (by decide), ?_⟩
  refine List.forall_mem_cons.mpr ⟨⟨rfl, (by decide +kernel : decode prog_12_method_24_code 24 = .ok (.ireturn, 1))⟩, ?_⟩
  refine List.forall_mem_cons.mpr ⟨sn_aload_n (k := 0) (by decide +kernel), ?_⟩
  refine List.forall_mem_cons.mpr ⟨sn_iconst (k := 0) (by decide +kernel) (by decide), ?_⟩
  refine List.forall_mem_cons.mpr ⟨sn_putf tyX10 (by decide +kernel) rfl tbX10 tyX10_ok nmX10 (by decide) tw_870 (Or.inl rfl) rfl, ?_⟩
  refine List.forall_mem_cons.mpr ⟨sn_aload_n (k := 0) (by decide +kernel), ?_⟩
  refine List.forall_mem_cons.mpr ⟨sn_iload_n (k := 1) (by decide +kernel), ?_⟩
  refine List.forall_mem_cons.mpr ⟨sn_putf tyX10 (by decide +kernel) rfl tbX10 tyX10_ok nmX10 (by decide) tw_866 (Or.inl rfl) rfl, ?_⟩
  refine List.forall_mem_cons.mpr ⟨sn_aload_n (k := 0) (by decide +kernel), ?_⟩
  refine List.forall_mem_cons.mpr ⟨sn_iconst (k := 0) (by decide +kernel) (by decide), ?_⟩
  refine List.forall_mem_cons.mpr ⟨sn_putf tyX10 (by decide +kernel) rfl tbX10 tyX10_ok nmX10 (by decide) tw_865 (Or.inl rfl) rfl, ?_⟩
  refine List.forall_mem_cons.mpr ⟨sn_iconst (k := 0) (by decide +kernel) (by decide), ?_⟩
  refine List.forall_mem_cons.mpr ⟨sn_istore_n (k := 2) (by decide +kernel) (by decide), ?_⟩
  refine List.forall_mem_cons.mpr ⟨sn_aload_n (k := 0) (by decide +kernel), ?_⟩
  refine List.forall_mem_cons.mpr ⟨sn_getf (by decide +kernel) rfl tbX10 (by decide) tw_861, ?_⟩
  refine List.forall_mem_cons.mpr ⟨sn_iload_n (k := 2) (by decide +kernel), ?_⟩
  refine List.forall_mem_cons.mpr ⟨sn_iald (by decide +kernel), ?_⟩
  refine List.forall_mem_cons.mpr ⟨sn_istore_n (k := 3) (by decide +kernel) (by decide), ?_⟩
  refine List.forall_mem_cons.mpr ⟨sn_iload_n (k := 3) (by decide +kernel), ?_⟩
  refine List.forall_mem_cons.mpr ⟨sn_bipush (k := 16) (by decide +kernel) (by decide), ?_⟩
  refine List.forall_mem_cons.mpr ⟨sn_icmp_ne (off := 13) (by decide +kernel) (by decide), ?_⟩
  refine List.forall_mem_cons.mpr ⟨sn_aload_n (k := 0) (by decide +kernel), ?_⟩
  refine List.forall_mem_cons.mpr ⟨sn_aload_n (k := 0) (by decide +kernel), ?_⟩
  refine List.forall_mem_cons.mpr ⟨⟨i_131, rfl, mk_callV (by decide) (by decide) cv_131 (Or.inl tw_954) rfl (by decide +kernel)⟩, ?_⟩
  refine List.forall_mem_cons.mpr ⟨sn_putf tyX10 (by decide +kernel) rfl tbX10 tyX10_ok nmX10 (by decide) tw_865 (Or.inl rfl) rfl, ?_⟩
  refine List.forall_mem_cons.mpr ⟨sn_iconst (k := 0) (by decide +kernel) (by decide), ?_⟩
  refine List.forall_mem_cons.mpr ⟨⟨rfl, (by decide +kernel : decode prog_12_method_24_code 64 = .ok (.ireturn, 1))⟩, ?_⟩
  refine List.forall_mem_cons.mpr ⟨sn_iload_n (k := 3) (by decide +kernel), ?_⟩
  refine List.forall_mem_cons.mpr ⟨sn_bipush (k := 17) (by decide +kernel) (by decide), ?_⟩
  refine List.forall_mem_cons.mpr ⟨sn_icmp_ne (off := 5) (by decide +kernel) (by decide), ?_⟩
  refine List.forall_mem_cons.mpr ⟨sn_iconst (k := 4) (by decide +kernel) (by decide), ?_⟩
  refine List.forall_mem_cons.mpr ⟨⟨rfl, (by decide +kernel : decode prog_12_method_24_code 72 = .ok (.ireturn, 1))⟩, ?_⟩
  refine List.forall_mem_cons.mpr ⟨sn_iload_n (k := 3) (by decide +kernel), ?_⟩
  refine List.forall_mem_cons.mpr ⟨sn_bipush (k := 15) (by decide +kernel) (by decide), ?_⟩
  refine List.forall_mem_cons.mpr ⟨sn_icmp_ne (off := 12) (by decide +kernel) (by decide), ?_⟩
  refine List.forall_mem_cons.mpr ⟨sn_aload_n (k := 0) (by decide +kernel), ?_⟩
  refine List.forall_mem_cons.mpr ⟨sn_getf (by decide +kernel) rfl tbX10 (by decide) tw_866, ?_⟩
  refine List.forall_mem_cons.mpr ⟨sn_if_ne (off := 5) (by decide +kernel) (by decide), ?_⟩
  refine List.forall_mem_cons.mpr ⟨sn_iconst (k := 1) (by decide +kernel) (by decide), ?_⟩
  refine List.forall_mem_cons.mpr ⟨⟨rfl, (by decide +kernel : decode prog_12_method_24_code 87 = .ok (.ireturn, 1))⟩, ?_⟩
  refine List.forall_mem_cons.mpr ⟨sn_aload_n (k := 0) (by decide +kernel), ?_⟩
  refine List.forall_mem_cons.mpr ⟨sn_dup (by decide +kernel), ?_⟩
  refine List.forall_mem_cons.mpr ⟨sn_getf (by decide +kernel) rfl tbX10 (by decide) tw_866, ?_⟩
  refine List.forall_mem_cons.mpr ⟨sn_iload_n (k := 3) (by decide +kernel), ?_⟩
  refine List.forall_mem_cons.mpr ⟨sn_bipush (k := 15) (by decide +kernel) (by decide), ?_⟩
  refine List.forall_mem_cons.mpr ⟨sn_icmp_ne (off := 7) (by decide +kernel) (by decide), ?_⟩
  refine List.forall_mem_cons.mpr ⟨sn_iconst (k := 1) (by decide +kernel) (by decide), ?_⟩
  refine List.forall_mem_cons.mpr ⟨sn_goto (off := 4) (by decide +kernel) (by decide), ?_⟩
  refine List.forall_mem_cons.mpr ⟨sn_iconst (k := 0) (by decide +kernel) (by decide), ?_⟩
  refine List.forall_mem_cons.mpr ⟨sn_isub (by decide +kernel), ?_⟩
  refine List.forall_mem_cons.mpr ⟨sn_putf tyX10 (by decide +kernel) rfl tbX10 tyX10_ok nmX10 (by decide) tw_866 (Or.inl rfl) rfl, ?_⟩
  refine List.forall_mem_cons.mpr ⟨sn_aload_n (k := 0) (by decide +kernel), ?_⟩
  refine List.forall_mem_cons.mpr ⟨sn_iload_n (k := 3) (by decide +kernel), ?_⟩
  refine List.forall_mem_cons.mpr ⟨sn_aload_n (k := 0) (by decide +kernel), ?_⟩
  refine List.forall_mem_cons.mpr ⟨sn_getf (by decide +kernel) rfl tbX10 (by decide) tw_862, ?_⟩
  refine List.forall_mem_cons.mpr ⟨sn_iload_n (k := 2) (by decide +kernel), ?_⟩
  refine List.forall_mem_cons.mpr ⟨sn_iald (by decide +kernel), ?_⟩
  refine List.forall_mem_cons.mpr ⟨⟨i_136, rfl, mk_callV (by decide) (by decide) cv_136 (Or.inl tw_958) rfl (by decide +kernel)⟩, ?_⟩
  refine List.forall_mem_cons.mpr ⟨sn_istore (k := 4) (by decide +kernel) (by decide), ?_⟩
  refine List.forall_mem_cons.mpr ⟨sn_iload (k := 4) (by decide +kernel), ?_⟩
  refine List.forall_mem_cons.mpr ⟨sn_if_le (off := 6) (by decide +kernel) (by decide), ?_⟩
  refine List.forall_mem_cons.mpr ⟨sn_iload (k := 4) (by decide +kernel), ?_⟩
  refine List.forall_mem_cons.mpr ⟨⟨rfl, (by decide +kernel : decode prog_12_method_24_code 128 = .ok (.ireturn, 1))⟩, ?_⟩
  refine List.forall_mem_cons.mpr ⟨sn_aload_n (k := 0) (by decide +kernel), ?_⟩
  refine List.forall_mem_cons.mpr ⟨sn_iload_n (k := 2) (by decide +kernel), ?_⟩
  refine List.forall_mem_cons.mpr ⟨⟨i_138, rfl, mk_callV (by decide) (by decide) cv_138 (Or.inl tw_980) rfl (by decide +kernel)⟩, ?_⟩
  refine List.forall_mem_cons.mpr ⟨sn_istore_n (k := 2) (by decide +kernel) (by decide), ?_⟩
  refine List.forall_mem_cons.mpr ⟨sn_goto (off := (-93)) (by decide +kernel) (by decide), ?_⟩
  exact fun _ h => absurd h List.not_mem_nil
set_option maxRecDepth 20000 in
theorem ok_140 : ∀ q ∈ mt_140, mx_ok mx_I0 i_140 q.1 q.2 := by
  refine List.forall_mem_cons.mpr ⟨sn_aload_n (k := 0) (by decide +kernel), ?_⟩
  refine List.forall_mem_cons.mpr ⟨sn_iconst (k := 0) (by decide +kernel) (by decide), ?_⟩
  refine List.forall_mem_cons.mpr ⟨sn_putf tyX10 (by decide +kernel) rfl tbX10 tyX10_ok nmX10 (by decide) tw_859 (Or.inl rfl) rfl, ?_⟩
  refine List.forall_mem_cons.mpr ⟨sn_aload_n (k := 0) (by decide +kernel), ?_⟩
  refine List.forall_mem_cons.mpr ⟨sn_getf (by decide +kernel) rfl tbX10 (by decide) tw_865, ?_⟩
  refine List.forall_mem_cons.mpr ⟨⟨rfl, (by decide +kernel : decode prog_12_method_25_code 9 = .ok (.ireturn, 1))⟩, ?_⟩
  exact fun _ h => absurd h List.not_mem_nil
set_option maxRecDepth 20000 in
theorem ok_141 : ∀ q ∈ mt_141, mx_ok mx_I0 i_141 q.1 q.2 := by
  refine List.forall_mem_cons.mpr ⟨sn_aload_n (k := 0) (by decide +kernel), ?_⟩
  refine List.forall_mem_cons.mpr ⟨sn_iconst (k := 0) (by decide +kernel) (by decide), ?_⟩
  refine List.forall_mem_cons.mpr ⟨sn_putf tyX10 (by decide +kernel) rfl tbX10 tyX10_ok nmX10 (by decide) tw_859 (Or.inl rfl) rfl, ?_⟩
  refine List.forall_mem_cons.mpr ⟨sn_aload_n (k := 0) (by decide +kernel), ?_⟩
  refine List.forall_mem_cons.mpr ⟨sn_getf (by decide +kernel) rfl tbX10 (by decide) tw_866, ?_⟩
  refine List.forall_mem_cons.mpr ⟨⟨rfl, (by decide +kernel : decode prog_12_method_26_code 9 = .ok (.ireturn, 1))⟩, ?_⟩
  exact fun _ h => absurd h List.not_mem_nil
set_option maxRecDepth 20000 in
theorem ok_142 : ∀ q ∈ mt_142, mx_ok mx_I0 i_142 q.1 q.2 := by
  refine List.forall_mem_cons.mpr ⟨sn_aload_n (k := 0) (by decide +kernel), ?_⟩
  refine List.forall_mem_cons.mpr ⟨sn_iconst (k := 0) (by decide +kernel) (by decide), ?_⟩
  refine List.forall_mem_cons.mpr ⟨sn_putf tyX10 (by decide +kernel) rfl tbX10 tyX10_ok nmX10 (by decide) tw_859 (Or.inl rfl) rfl, ?_⟩
  refine List.forall_mem_cons.mpr ⟨sn_iload_n (k := 1) (by decide +kernel), ?_⟩
  refine List.forall_mem_cons.mpr ⟨sn_iconst (k := 0) (by decide +kernel) (by decide), ?_⟩
  refine List.forall_mem_cons.mpr ⟨sn_bipush (k := 15) (by decide +kernel) (by decide), ?_⟩
  refine List.forall_mem_cons.mpr ⟨⟨i_120, rfl, mk_callS (by decide) (by decide) cs_120 (Or.inl tw_920) (by decide +kernel)⟩, ?_⟩
  refine List.forall_mem_cons.mpr ⟨sn_if_ne (off := 5) (by decide +kernel) (by decide), ?_⟩
  refine List.forall_mem_cons.mpr ⟨sn_iconst (k := 0) (by decide +kernel) (by decide), ?_⟩
  refine List.forall_mem_cons.mpr ⟨⟨rfl, (by decide +kernel : decode prog_12_method_27_code 16 = .ok (.ireturn, 1))⟩, ?_⟩
  refine List.forall_mem_cons.mpr ⟨sn_aload_n (k := 0) (by decide +kernel), ?_⟩
  refine List.forall_mem_cons.mpr ⟨sn_getf (by decide +kernel) rfl tbX10 (by decide) tw_863, ?_⟩
  refine List.forall_mem_cons.mpr ⟨sn_iload_n (k := 1) (by decide +kernel), ?_⟩
  refine List.forall_mem_cons.mpr ⟨sn_iald (by decide +kernel), ?_⟩
  refine List.forall_mem_cons.mpr ⟨sn_istore_n (k := 3) (by decide +kernel) (by decide), ?_⟩
  refine List.forall_mem_cons.mpr ⟨sn_aload_n (k := 0) (by decide +kernel), ?_⟩
  refine List.forall_mem_cons.mpr ⟨sn_getf (by decide +kernel) rfl tbX10 (by decide) tw_863, ?_⟩
  refine List.forall_mem_cons.mpr ⟨sn_iload_n (k := 1) (by decide +kernel), ?_⟩
  refine List.forall_mem_cons.mpr ⟨sn_iload_n (k := 2) (by decide +kernel), ?_⟩
  refine List.forall_mem_cons.mpr ⟨sn_iast (by decide +kernel), ?_⟩
  refine List.forall_mem_cons.mpr ⟨sn_iload_n (k := 3) (by decide +kernel), ?_⟩
  refine List.forall_mem_cons.mpr ⟨⟨rfl, (by decide +kernel : decode prog_12_method_27_code 32 = .ok (.ireturn, 1))⟩, ?_⟩
  exact fun _ h => absurd h List.not_mem_nil
set_option maxRecDepth 20000 in
theorem ok_143 : ∀ q ∈ mt_143, mx_ok mx_I0 i_143 q.1 q.2 := by
  refine List.forall_mem_cons.mpr ⟨sn_aload_n (k := 0) (by decide +kernel), ?_⟩
  refine List.forall_mem_cons.mpr ⟨sn_iload_n (k := 1) (by decide +kernel), ?_⟩
  refine List.forall_mem_cons.mpr ⟨sn_iconst (k := 0) (by decide +kernel) (by decide), ?_⟩
  refine List.forall_mem_cons.mpr ⟨sn_bipush (k := 15) (by decide +kernel) (by decide), ?_⟩
  refine List.forall_mem_cons.mpr ⟨⟨i_120, rfl, mk_callS (by decide) (by decide) cs_120 (Or.inl tw_920) (by decide +kernel)⟩, ?_⟩
  refine List.forall_mem_cons.mpr ⟨sn_if_eq (off := 7) (by decide +kernel) (by decide), ?_⟩
  refine List.forall_mem_cons.mpr ⟨sn_iconst (k := 0) (by decide +kernel) (by decide), ?_⟩
  refine List.forall_mem_cons.mpr ⟨sn_goto (off := 4) (by decide +kernel) (by decide), ?_⟩
  refine List.forall_mem_cons.mpr ⟨sn_iconst (k := 1) (by decide +kernel) (by decide), ?_⟩
  refine List.forall_mem_cons.mpr ⟨sn_putf tyX10 (by decide +kernel) rfl tbX10 tyX10_ok nmX10 (by decide) tw_859 (Or.inl rfl) rfl, ?_⟩
  refine List.forall_mem_cons.mpr ⟨sn_aload_n (k := 0) (by decide +kernel), ?_⟩
  refine List.forall_mem_cons.mpr ⟨sn_getf (by decide +kernel) rfl tbX10 (by decide) tw_859, ?_⟩
  refine List.forall_mem_cons.mpr ⟨sn_if_ne (off := 12) (by decide +kernel) (by decide), ?_⟩
  refine List.forall_mem_cons.mpr ⟨sn_aload_n (k := 0) (by decide +kernel), ?_⟩
  refine List.forall_mem_cons.mpr ⟨sn_getf (by decide +kernel) rfl tbX10 (by decide) tw_863, ?_⟩
  refine List.forall_mem_cons.mpr ⟨sn_iload_n (k := 1) (by decide +kernel), ?_⟩
  refine List.forall_mem_cons.mpr ⟨sn_iald (by decide +kernel), ?_⟩
  refine List.forall_mem_cons.mpr ⟨sn_goto (off := 4) (by decide +kernel) (by decide), ?_⟩
  refine List.forall_mem_cons.mpr ⟨sn_iconst (k := 0) (by decide +kernel) (by decide), ?_⟩
  refine List.forall_mem_cons.mpr ⟨⟨rfl, (by decide +kernel : decode prog_12_method_28_code 36 = .ok (.ireturn, 1))⟩, ?_⟩
  exact fun _ h => absurd h List.not_mem_nil
set_option maxRecDepth 20000 in
theorem ok_144 : ∀ q ∈ mt_144, mx_ok mx_I0 i_144 q.1 q.2 := by
  refine List.forall_mem_cons.mpr ⟨sn_aload_n (k := 0) (by decide +kernel), ?_⟩
  refine List.forall_mem_cons.mpr ⟨sn_iconst (k := 0) (by decide +kernel) (by decide), ?_⟩
  refine List.forall_mem_cons.mpr ⟨sn_putf tyX10 (by decide +kernel) rfl tbX10 tyX10_ok nmX10 (by decide) tw_859 (Or.inl rfl) rfl, ?_⟩
  refine List.forall_mem_cons.mpr ⟨sn_iload_n (k := 1) (by decide +kernel), ?_⟩
  refine List.forall_mem_cons.mpr ⟨sn_iconst (k := 0) (by decide +kernel) (by decide), ?_⟩
  refine List.forall_mem_cons.mpr ⟨sn_bipush (k := 63) (by decide +kernel) (by decide), ?_⟩
  refine List.forall_mem_cons.mpr ⟨⟨i_120, rfl, mk_callS (by decide) (by decide) cs_120 (Or.inl tw_920) (by decide +kernel)⟩, ?_⟩
  refine List.forall_mem_cons.mpr ⟨sn_if_ne (off := 5) (by decide +kernel) (by decide), ?_⟩
  refine List.forall_mem_cons.mpr ⟨sn_iconst (k := 0) (by decide +kernel) (by decide), ?_⟩
  refine List.forall_mem_cons.mpr ⟨⟨rfl, (by decide +kernel : decode prog_12_method_29_code 16 = .ok (.ireturn, 1))⟩, ?_⟩
  refine List.forall_mem_cons.mpr ⟨sn_aload_n (k := 0) (by decide +kernel), ?_⟩
  refine List.forall_mem_cons.mpr ⟨sn_getf (by decide +kernel) rfl tbX10 (by decide) tw_864, ?_⟩
  refine List.forall_mem_cons.mpr ⟨sn_iload_n (k := 1) (by decide +kernel), ?_⟩
  refine List.forall_mem_cons.mpr ⟨sn_iald (by decide +kernel), ?_⟩
  refine List.forall_mem_cons.mpr ⟨sn_istore_n (k := 3) (by decide +kernel) (by decide), ?_⟩
  refine List.forall_mem_cons.mpr ⟨sn_aload_n (k := 0) (by decide +kernel), ?_⟩
  refine List.forall_mem_cons.mpr ⟨sn_getf (by decide +kernel) rfl tbX10 (by decide) tw_864, ?_⟩
  refine List.forall_mem_cons.mpr ⟨sn_iload_n (k := 1) (by decide +kernel), ?_⟩
  refine List.forall_mem_cons.mpr ⟨sn_iload_n (k := 2) (by decide +kernel), ?_⟩
  refine List.forall_mem_cons.mpr ⟨sn_iast (by decide +kernel), ?_⟩
  refine List.forall_mem_cons.mpr ⟨sn_iload_n (k := 3) (by decide +kernel), ?_⟩
  refine List.forall_mem_cons.mpr ⟨⟨rfl, (by decide +kernel : decode prog_12_method_29_code 32 = .ok (.ireturn, 1))⟩, ?_⟩
  exact fun _ h => absurd h List.not_mem_nil
set_option maxRecDepth 20000 in
theorem ok_145 : ∀ q ∈ mt_145, mx_ok mx_I0 i_145 q.1 q.2 := by
  refine List.forall_mem_cons.mpr ⟨sn_aload_n (k := 0) (by decide +kernel), ?_⟩
  refine List.forall_mem_cons.mpr ⟨sn_iload_n (k := 1) (by decide +kernel), ?_⟩
  refine List.forall_mem_cons.mpr ⟨sn_iconst (k := 0) (by decide +kernel) (by decide), ?_⟩
  refine List.forall_mem_cons.mpr ⟨sn_bipush (k := 63) (by decide +kernel) (by decide), ?_⟩
  refine List.forall_mem_cons.mpr ⟨⟨i_120, rfl, mk_callS (by decide) (by decide) cs_120 (Or.inl tw_920) (by decide +kernel)⟩, ?_⟩
  refine List.forall_mem_cons.mpr ⟨sn_if_eq (off := 7) (by decide +kernel) (by decide), ?_⟩
  refine List.forall_mem_cons.mpr ⟨sn_iconst (k := 0) (by decide +kernel) (by decide), ?_⟩
  refine List.forall_mem_cons.mpr ⟨sn_goto (off := 4) (by decide +kernel) (by decide), ?_⟩
  refine List.forall_mem_cons.mpr ⟨sn_iconst (k := 1) (by decide +kernel) (by decide), ?_⟩
  refine List.forall_mem_cons.mpr ⟨sn_putf tyX10 (by decide +kernel) rfl tbX10 tyX10_ok nmX10 (by decide) tw_859 (Or.inl rfl) rfl, ?_⟩
  refine List.forall_mem_cons.mpr ⟨sn_aload_n (k := 0) (by decide +kernel), ?_⟩
  refine List.forall_mem_cons.mpr ⟨sn_getf (by decide +kernel) rfl tbX10 (by decide) tw_859, ?_⟩
  refine List.forall_mem_cons.mpr ⟨sn_if_ne (off := 12) (by decide +kernel) (by decide), ?_⟩
  refine List.forall_mem_cons.mpr ⟨sn_aload_n (k := 0) (by decide +kernel), ?_⟩
  refine List.forall_mem_cons.mpr ⟨sn_getf (by decide +kernel) rfl tbX10 (by decide) tw_864, ?_⟩
  refine List.forall_mem_cons.mpr ⟨sn_iload_n (k := 1) (by decide +kernel), ?_⟩
  refine List.forall_mem_cons.mpr ⟨sn_iald (by decide +kernel), ?_⟩
  refine List.forall_mem_cons.mpr ⟨sn_goto (off := 4) (by decide +kernel) (by decide), ?_⟩
  refine List.forall_mem_cons.mpr ⟨sn_iconst (k := 0) (by decide +kernel) (by decide), ?_⟩
  refine List.forall_mem_cons.mpr ⟨⟨rfl, (by decide +kernel : decode prog_12_method_30_code 36 = .ok (.ireturn, 1))⟩, ?_⟩
  exact fun _ h => absurd h List.not_mem_nil
