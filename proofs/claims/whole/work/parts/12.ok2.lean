set_option maxRecDepth 20000 in
theorem ok_65 : ∀ q ∈ mt_65, mx_ok mx_I0 i_65 q.1 q.2 := by
  refine List.forall_mem_cons.mpr ⟨sn_aload_n (k := 0) (by decide +kernel), ?_⟩
  refine List.forall_mem_cons.mpr ⟨sn_getf (by decide +kernel) rfl tbX3 (by decide) tw_127, ?_⟩
  refine List.forall_mem_cons.mpr ⟨sn_iload_n (k := 1) (by decide +kernel), ?_⟩
  refine List.forall_mem_cons.mpr ⟨⟨i_26, rfl, mk_callV (by decide) (by decide) cv_26 (Or.inl tw_361) rfl (by decide +kernel)⟩, ?_⟩
  refine List.forall_mem_cons.mpr ⟨sn_istore_n (k := 2) (by decide +kernel) (by decide), ?_⟩
  refine List.forall_mem_cons.mpr ⟨sn_iload_n (k := 2) (by decide +kernel), ?_⟩
  refine List.forall_mem_cons.mpr ⟨sn_if_lt (off := 19) (by decide +kernel) (by decide), ?_⟩
  refine List.forall_mem_cons.mpr ⟨sn_iload_n (k := 2) (by decide +kernel), ?_⟩
  refine List.forall_mem_cons.mpr ⟨sn_getsN (by decide +kernel) rfl tw_414, ?_⟩
  refine List.forall_mem_cons.mpr ⟨sn_alen (by decide +kernel), ?_⟩
  refine List.forall_mem_cons.mpr ⟨sn_icmp_ge (off := 11) (by decide +kernel) (by decide), ?_⟩
  refine List.forall_mem_cons.mpr ⟨sn_iload_n (k := 2) (by decide +kernel), ?_⟩
  refine List.forall_mem_cons.mpr ⟨sn_getsN (by decide +kernel) rfl tw_416, ?_⟩
  refine List.forall_mem_cons.mpr ⟨sn_alen (by decide +kernel), ?_⟩
  refine List.forall_mem_cons.mpr ⟨sn_icmp_lt (off := 5) (by decide +kernel) (by decide), ?_⟩
  refine List.forall_mem_cons.mpr ⟨sn_iconst (k := 0) (by decide +kernel) (by decide), ?_⟩
  refine List.forall_mem_cons.mpr ⟨⟨rfl, (by decide +kernel : decode prog_5_method_12_code 30 = .ok (.ireturn, 1))⟩, ?_⟩
  refine List.forall_mem_cons.mpr ⟨sn_aload_n (k := 0) (by decide +kernel), ?_⟩
  refine List.forall_mem_cons.mpr ⟨sn_getf (by decide +kernel) rfl tbX3 (by decide) tw_129, ?_⟩
  refine List.forall_mem_cons.mpr ⟨sn_iload_n (k := 1) (by decide +kernel), ?_⟩
  refine List.forall_mem_cons.mpr ⟨⟨i_3, rfl, mk_callV (by decide) (by decide) cv_3 (Or.inl tw_380) rfl (by decide +kernel)⟩, ?_⟩
  refine List.forall_mem_cons.mpr ⟨sn_getsN (by decide +kernel) rfl tw_414, ?_⟩
  refine List.forall_mem_cons.mpr ⟨sn_iload_n (k := 2) (by decide +kernel), ?_⟩
  refine List.forall_mem_cons.mpr ⟨sn_iald (by decide +kernel), ?_⟩
  refine List.forall_mem_cons.mpr ⟨sn_isub (by decide +kernel), ?_⟩
  refine List.forall_mem_cons.mpr ⟨sn_istore_n (k := 3) (by decide +kernel) (by decide), ?_⟩
  refine List.forall_mem_cons.mpr ⟨sn_iload_n (k := 3) (by decide +kernel), ?_⟩
  refine List.forall_mem_cons.mpr ⟨sn_getsN (by decide +kernel) rfl tw_416, ?_⟩
  refine List.forall_mem_cons.mpr ⟨sn_iload_n (k := 2) (by decide +kernel), ?_⟩
  refine List.forall_mem_cons.mpr ⟨sn_iald (by decide +kernel), ?_⟩
  refine List.forall_mem_cons.mpr ⟨sn_iadd (by decide +kernel), ?_⟩
  refine List.forall_mem_cons.mpr ⟨sn_istore (k := 4) (by decide +kernel) (by decide), ?_⟩
  refine List.forall_mem_cons.mpr ⟨sn_iload_n (k := 3) (by decide +kernel), ?_⟩
  refine List.forall_mem_cons.mpr ⟨sn_if_lt (off := 10) (by decide +kernel) (by decide), ?_⟩
  refine List.forall_mem_cons.mpr ⟨sn_iload (k := 4) (by decide +kernel), ?_⟩
  refine List.forall_mem_cons.mpr ⟨sn_bipush (k := 60) (by decide +kernel) (by decide), ?_⟩
  refine List.forall_mem_cons.mpr ⟨sn_icmp_le (off := 5) (by decide +kernel) (by decide), ?_⟩
  refine List.forall_mem_cons.mpr ⟨sn_iconst (k := 0) (by decide +kernel) (by decide), ?_⟩
  refine List.forall_mem_cons.mpr ⟨⟨rfl, (by decide +kernel : decode prog_5_method_12_code 67 = .ok (.ireturn, 1))⟩, ?_⟩
  refine List.forall_mem_cons.mpr ⟨sn_aload_n (k := 0) (by decide +kernel), ?_⟩
  refine List.forall_mem_cons.mpr ⟨sn_iload_n (k := 1) (by decide +kernel), ?_⟩
  refine List.forall_mem_cons.mpr ⟨⟨i_62, rfl, mk_callV (by decide) (by decide) cv_62 (Or.inl tw_418) rfl (by decide +kernel)⟩, ?_⟩
  refine List.forall_mem_cons.mpr ⟨sn_istore (k := 5) (by decide +kernel) (by decide), ?_⟩
  refine List.forall_mem_cons.mpr ⟨sn_iload (k := 5) (by decide +kernel), ?_⟩
  refine List.forall_mem_cons.mpr ⟨sn_iconst (k := (-1)) (by decide +kernel) (by decide), ?_⟩
  refine List.forall_mem_cons.mpr ⟨sn_icmp_eq (off := 16) (by decide +kernel) (by decide), ?_⟩
  refine List.forall_mem_cons.mpr ⟨sn_aload_n (k := 0) (by decide +kernel), ?_⟩
  refine List.forall_mem_cons.mpr ⟨sn_iload (k := 5) (by decide +kernel), ?_⟩
  refine List.forall_mem_cons.mpr ⟨sn_iload (k := 4) (by decide +kernel), ?_⟩
  refine List.forall_mem_cons.mpr ⟨⟨i_66, rfl, mk_callV (by decide) (by decide) cv_66 (Or.inl tw_400) rfl (by decide +kernel)⟩, ?_⟩
  refine List.forall_mem_cons.mpr ⟨sn_if_ne (off := 5) (by decide +kernel) (by decide), ?_⟩
  refine List.forall_mem_cons.mpr ⟨sn_iconst (k := 0) (by decide +kernel) (by decide), ?_⟩
  refine List.forall_mem_cons.mpr ⟨⟨rfl, (by decide +kernel : decode prog_5_method_12_code 93 = .ok (.ireturn, 1))⟩, ?_⟩
  refine List.forall_mem_cons.mpr ⟨sn_aload_n (k := 0) (by decide +kernel), ?_⟩
  refine List.forall_mem_cons.mpr ⟨sn_iload_n (k := 1) (by decide +kernel), ?_⟩
  refine List.forall_mem_cons.mpr ⟨⟨i_63, rfl, mk_callV (by decide) (by decide) cv_63 (Or.inl tw_425) rfl (by decide +kernel)⟩, ?_⟩
  refine List.forall_mem_cons.mpr ⟨sn_istore (k := 6) (by decide +kernel) (by decide), ?_⟩
  refine List.forall_mem_cons.mpr ⟨sn_iload (k := 6) (by decide +kernel), ?_⟩
  refine List.forall_mem_cons.mpr ⟨sn_iconst (k := (-1)) (by decide +kernel) (by decide), ?_⟩
  refine List.forall_mem_cons.mpr ⟨sn_icmp_eq (off := 13) (by decide +kernel) (by decide), ?_⟩
  refine List.forall_mem_cons.mpr ⟨sn_aload_n (k := 0) (by decide +kernel), ?_⟩
  refine List.forall_mem_cons.mpr ⟨sn_iload (k := 6) (by decide +kernel), ?_⟩
  refine List.forall_mem_cons.mpr ⟨sn_iload_n (k := 3) (by decide +kernel), ?_⟩
  refine List.forall_mem_cons.mpr ⟨⟨i_66, rfl, mk_callV (by decide) (by decide) cv_66 (Or.inl tw_400) rfl (by decide +kernel)⟩, ?_⟩
  refine List.forall_mem_cons.mpr ⟨sn_if_eq (off := 7) (by decide +kernel) (by decide), ?_⟩
  refine List.forall_mem_cons.mpr ⟨sn_iconst (k := 1) (by decide +kernel) (by decide), ?_⟩
  refine List.forall_mem_cons.mpr ⟨sn_goto (off := 4) (by decide +kernel) (by decide), ?_⟩
  refine List.forall_mem_cons.mpr ⟨sn_iconst (k := 0) (by decide +kernel) (by decide), ?_⟩
  refine List.forall_mem_cons.mpr ⟨⟨rfl, (by decide +kernel : decode prog_5_method_12_code 122 = .ok (.ireturn, 1))⟩, ?_⟩
  exact fun _ h => absurd h List.not_mem_nil
set_option maxRecDepth 20000 in
theorem ok_66 : ∀ q ∈ mt_66, mx_ok mx_I0 i_66 q.1 q.2 := by
  refine List.forall_mem_cons.mpr ⟨sn_iload_n (k := 1) (by decide +kernel), ?_⟩
  refine List.forall_mem_cons.mpr ⟨sn_aload_n (k := 0) (by decide +kernel), ?_⟩
  refine List.forall_mem_cons.mpr ⟨sn_getf (by decide +kernel) rfl tbX3 (by decide) tw_129, ?_⟩
  refine List.forall_mem_cons.mpr ⟨⟨i_2, rfl, mk_callV (by decide) (by decide) cv_2 (Or.inl tw_404) rfl (by decide +kernel)⟩, ?_⟩
  refine List.forall_mem_cons.mpr ⟨sn_icmp_lt (off := 5) (by decide +kernel) (by decide), ?_⟩
  refine List.forall_mem_cons.mpr ⟨sn_iconst (k := 0) (by decide +kernel) (by decide), ?_⟩
  refine List.forall_mem_cons.mpr ⟨⟨rfl, (by decide +kernel : decode prog_5_method_13_code 12 = .ok (.ireturn, 1))⟩, ?_⟩
  refine List.forall_mem_cons.mpr ⟨sn_aload_n (k := 0) (by decide +kernel), ?_⟩
  refine List.forall_mem_cons.mpr ⟨sn_getf (by decide +kernel) rfl tbX3 (by decide) tw_129, ?_⟩
  refine List.forall_mem_cons.mpr ⟨sn_iload_n (k := 1) (by decide +kernel), ?_⟩
  refine List.forall_mem_cons.mpr ⟨⟨i_3, rfl, mk_callV (by decide) (by decide) cv_3 (Or.inl tw_380) rfl (by decide +kernel)⟩, ?_⟩
  refine List.forall_mem_cons.mpr ⟨sn_iconst (k := (-1)) (by decide +kernel) (by decide), ?_⟩
  refine List.forall_mem_cons.mpr ⟨sn_icmp_ne (off := 20) (by decide +kernel) (by decide), ?_⟩
  refine List.forall_mem_cons.mpr ⟨sn_aload_n (k := 0) (by decide +kernel), ?_⟩
  refine List.forall_mem_cons.mpr ⟨sn_getf (by decide +kernel) rfl tbX3 (by decide) tw_129, ?_⟩
  refine List.forall_mem_cons.mpr ⟨sn_iload_n (k := 1) (by decide +kernel), ?_⟩
  refine List.forall_mem_cons.mpr ⟨sn_iload_n (k := 2) (by decide +kernel), ?_⟩
  refine List.forall_mem_cons.mpr ⟨⟨i_4, rfl, mk_callV (by decide) (by decide) cv_4 (Or.inl tw_381) rfl (by decide +kernel)⟩, ?_⟩
  refine List.forall_mem_cons.mpr ⟨sn_aload_n (k := 0) (by decide +kernel), ?_⟩
  refine List.forall_mem_cons.mpr ⟨sn_getf (by decide +kernel) rfl tbX3 (by decide) tw_131, ?_⟩
  refine List.forall_mem_cons.mpr ⟨sn_iload_n (k := 1) (by decide +kernel), ?_⟩
  refine List.forall_mem_cons.mpr ⟨⟨i_5, rfl, mk_callV (by decide) (by decide) cv_5 (Or.inl tw_405) rfl (by decide +kernel)⟩, ?_⟩
  refine List.forall_mem_cons.mpr ⟨sn_aload_n (k := 0) (by decide +kernel), ?_⟩
  refine List.forall_mem_cons.mpr ⟨sn_getf (by decide +kernel) rfl tbX3 (by decide) tw_129, ?_⟩
  refine List.forall_mem_cons.mpr ⟨sn_iload_n (k := 1) (by decide +kernel), ?_⟩
  refine List.forall_mem_cons.mpr ⟨⟨i_3, rfl, mk_callV (by decide) (by decide) cv_3 (Or.inl tw_380) rfl (by decide +kernel)⟩, ?_⟩
  refine List.forall_mem_cons.mpr ⟨sn_iload_n (k := 2) (by decide +kernel), ?_⟩
  refine List.forall_mem_cons.mpr ⟨sn_icmp_ne (off := 7) (by decide +kernel) (by decide), ?_⟩
  refine List.forall_mem_cons.mpr ⟨sn_iconst (k := 1) (by decide +kernel) (by decide), ?_⟩
  refine List.forall_mem_cons.mpr ⟨sn_goto (off := 4) (by decide +kernel) (by decide), ?_⟩
  refine List.forall_mem_cons.mpr ⟨sn_iconst (k := 0) (by decide +kernel) (by decide), ?_⟩
  refine List.forall_mem_cons.mpr ⟨⟨rfl, (by decide +kernel : decode prog_5_method_13_code 59 = .ok (.ireturn, 1))⟩, ?_⟩
  exact fun _ h => absurd h List.not_mem_nil
set_option maxRecDepth 20000 in
theorem ok_67 : ∀ q ∈ mt_67, mx_ok mx_I0 i_67 q.1 q.2 := by
  refine List.forall_mem_cons.mpr ⟨sn_aload_n (k := 0) (by decide +kernel), ?_⟩
  refine List.forall_mem_cons.mpr ⟨sn_getf (by decide +kernel) rfl tbX3 (by decide) tw_130, ?_⟩
  refine List.forall_mem_cons.mpr ⟨sn_aload_n (k := 0) (by decide +kernel), ?_⟩
  refine List.forall_mem_cons.mpr ⟨sn_getf (by decide +kernel) rfl tbX3 (by decide) tw_127, ?_⟩
  refine List.forall_mem_cons.mpr ⟨⟨i_25, rfl, mk_callV (by decide) (by decide) cv_25 (Or.inl tw_356) rfl (by decide +kernel)⟩, ?_⟩
  refine List.forall_mem_cons.mpr ⟨sn_iconst (k := 0) (by decide +kernel) (by decide), ?_⟩
  refine List.forall_mem_cons.mpr ⟨⟨i_8, rfl, mk_callV (by decide) (by decide) cv_8 (Or.inl tw_379) rfl (by decide +kernel)⟩, ?_⟩
  refine List.forall_mem_cons.mpr ⟨sn_iconst (k := 0) (by decide +kernel) (by decide), ?_⟩
  refine List.forall_mem_cons.mpr ⟨sn_istore_n (k := 1) (by decide +kernel) (by decide), ?_⟩
  refine List.forall_mem_cons.mpr ⟨sn_iconst (k := 0) (by decide +kernel) (by decide), ?_⟩
  refine List.forall_mem_cons.mpr ⟨sn_istore_n (k := 2) (by decide +kernel) (by decide), ?_⟩
  refine List.forall_mem_cons.mpr ⟨sn_iload_n (k := 2) (by decide +kernel), ?_⟩
  refine List.forall_mem_cons.mpr ⟨sn_aload_n (k := 0) (by decide +kernel), ?_⟩
  refine List.forall_mem_cons.mpr ⟨sn_getf (by decide +kernel) rfl tbX3 (by decide) tw_127, ?_⟩
  refine List.forall_mem_cons.mpr ⟨⟨i_25, rfl, mk_callV (by decide) (by decide) cv_25 (Or.inl tw_356) rfl (by decide +kernel)⟩, ?_⟩
  refine List.forall_mem_cons.mpr ⟨sn_icmp_ge (off := 38) (by decide +kernel) (by decide), ?_⟩
  refine List.forall_mem_cons.mpr ⟨sn_aload_n (k := 0) (by decide +kernel), ?_⟩
  refine List.forall_mem_cons.mpr ⟨sn_iload_n (k := 2) (by decide +kernel), ?_⟩
  refine List.forall_mem_cons.mpr ⟨⟨i_68, rfl, mk_callV (by decide) (by decide) cv_68 (Or.inl tw_433) rfl (by decide +kernel)⟩, ?_⟩
  refine List.forall_mem_cons.mpr ⟨sn_if_eq (off := 24) (by decide +kernel) (by decide), ?_⟩
  refine List.forall_mem_cons.mpr ⟨sn_iinc (d := 1) (by decide +kernel) (by decide) (by decide), ?_⟩
  refine List.forall_mem_cons.mpr ⟨sn_aload_n (k := 0) (by decide +kernel), ?_⟩
  refine List.forall_mem_cons.mpr ⟨sn_aload_n (k := 0) (by decide +kernel), ?_⟩
  refine List.forall_mem_cons.mpr ⟨sn_iload_n (k := 2) (by decide +kernel), ?_⟩
  refine List.forall_mem_cons.mpr ⟨⟨i_62, rfl, mk_callV (by decide) (by decide) cv_62 (Or.inl tw_418) rfl (by decide +kernel)⟩, ?_⟩
  refine List.forall_mem_cons.mpr ⟨⟨i_69, rfl, mk_callV (by decide) (by decide) cv_69 (Or.inl tw_437) rfl (by decide +kernel)⟩, ?_⟩
  refine List.forall_mem_cons.mpr ⟨sn_aload_n (k := 0) (by decide +kernel), ?_⟩
  refine List.forall_mem_cons.mpr ⟨sn_aload_n (k := 0) (by decide +kernel), ?_⟩
  refine List.forall_mem_cons.mpr ⟨sn_iload_n (k := 2) (by decide +kernel), ?_⟩
  refine List.forall_mem_cons.mpr ⟨⟨i_63, rfl, mk_callV (by decide) (by decide) cv_63 (Or.inl tw_425) rfl (by decide +kernel)⟩, ?_⟩
  refine List.forall_mem_cons.mpr ⟨⟨i_69, rfl, mk_callV (by decide) (by decide) cv_69 (Or.inl tw_437) rfl (by decide +kernel)⟩, ?_⟩
  refine List.forall_mem_cons.mpr ⟨sn_iinc (d := 1) (by decide +kernel) (by decide) (by decide), ?_⟩
  refine List.forall_mem_cons.mpr ⟨sn_goto (off := (-43)) (by decide +kernel) (by decide), ?_⟩
  refine List.forall_mem_cons.mpr ⟨sn_aload_n (k := 0) (by decide +kernel), ?_⟩
  refine List.forall_mem_cons.mpr ⟨sn_getf (by decide +kernel) rfl tbX3 (by decide) tw_131, ?_⟩
  refine List.forall_mem_cons.mpr ⟨sn_iconst (k := 0) (by decide +kernel) (by decide), ?_⟩
  refine List.forall_mem_cons.mpr ⟨⟨i_7, rfl, mk_callV (by decide) (by decide) cv_7 (Or.inl tw_399) rfl (by decide +kernel)⟩, ?_⟩
  refine List.forall_mem_cons.mpr ⟨sn_iconst (k := 0) (by decide +kernel) (by decide), ?_⟩
  refine List.forall_mem_cons.mpr ⟨sn_istore_n (k := 2) (by decide +kernel) (by decide), ?_⟩
  refine List.forall_mem_cons.mpr ⟨sn_iload_n (k := 2) (by decide +kernel), ?_⟩
  refine List.forall_mem_cons.mpr ⟨sn_aload_n (k := 0) (by decide +kernel), ?_⟩
  refine List.forall_mem_cons.mpr ⟨sn_getf (by decide +kernel) rfl tbX3 (by decide) tw_127, ?_⟩
  refine List.forall_mem_cons.mpr ⟨⟨i_25, rfl, mk_callV (by decide) (by decide) cv_25 (Or.inl tw_356) rfl (by decide +kernel)⟩, ?_⟩
  refine List.forall_mem_cons.mpr ⟨sn_icmp_ge (off := 36) (by decide +kernel) (by decide), ?_⟩
  refine List.forall_mem_cons.mpr ⟨sn_aload_n (k := 0) (by decide +kernel), ?_⟩
  refine List.forall_mem_cons.mpr ⟨sn_iload_n (k := 2) (by decide +kernel), ?_⟩
  refine List.forall_mem_cons.mpr ⟨⟨i_68, rfl, mk_callV (by decide) (by decide) cv_68 (Or.inl tw_433) rfl (by decide +kernel)⟩, ?_⟩
  refine List.forall_mem_cons.mpr ⟨sn_if_eq (off := 22) (by decide +kernel) (by decide), ?_⟩
  refine List.forall_mem_cons.mpr ⟨sn_aload_n (k := 0) (by decide +kernel), ?_⟩
  refine List.forall_mem_cons.mpr ⟨sn_getf (by decide +kernel) rfl tbX3 (by decide) tw_130, ?_⟩
  refine List.forall_mem_cons.mpr ⟨sn_iload_n (k := 2) (by decide +kernel), ?_⟩
  refine List.forall_mem_cons.mpr ⟨⟨i_3, rfl, mk_callV (by decide) (by decide) cv_3 (Or.inl tw_380) rfl (by decide +kernel)⟩, ?_⟩
  refine List.forall_mem_cons.mpr ⟨sn_if_ne (off := 11) (by decide +kernel) (by decide), ?_⟩
  refine List.forall_mem_cons.mpr ⟨sn_aload_n (k := 0) (by decide +kernel), ?_⟩
  refine List.forall_mem_cons.mpr ⟨sn_getf (by decide +kernel) rfl tbX3 (by decide) tw_131, ?_⟩
  refine List.forall_mem_cons.mpr ⟨sn_iload_n (k := 2) (by decide +kernel), ?_⟩
  refine List.forall_mem_cons.mpr ⟨⟨i_5, rfl, mk_callV (by decide) (by decide) cv_5 (Or.inl tw_405) rfl (by decide +kernel)⟩, ?_⟩
  refine List.forall_mem_cons.mpr ⟨sn_iinc (d := 1) (by decide +kernel) (by decide) (by decide), ?_⟩
  refine List.forall_mem_cons.mpr ⟨sn_goto (off := (-41)) (by decide +kernel) (by decide), ?_⟩
  refine List.forall_mem_cons.mpr ⟨sn_iconst (k := 0) (by decide +kernel) (by decide), ?_⟩
  refine List.forall_mem_cons.mpr ⟨sn_istore_n (k := 2) (by decide +kernel) (by decide), ?_⟩
  refine List.forall_mem_cons.mpr ⟨sn_iload_n (k := 2) (by decide +kernel), ?_⟩
  refine List.forall_mem_cons.mpr ⟨sn_aload_n (k := 0) (by decide +kernel), ?_⟩
  refine List.forall_mem_cons.mpr ⟨sn_getf (by decide +kernel) rfl tbX3 (by decide) tw_127, ?_⟩
  refine List.forall_mem_cons.mpr ⟨⟨i_25, rfl, mk_callV (by decide) (by decide) cv_25 (Or.inl tw_356) rfl (by decide +kernel)⟩, ?_⟩
  refine List.forall_mem_cons.mpr ⟨sn_icmp_ge (off := 48) (by decide +kernel) (by decide), ?_⟩
  refine List.forall_mem_cons.mpr ⟨sn_aload_n (k := 0) (by decide +kernel), ?_⟩
  refine List.forall_mem_cons.mpr ⟨sn_getf (by decide +kernel) rfl tbX3 (by decide) tw_131, ?_⟩
  refine List.forall_mem_cons.mpr ⟨⟨i_2, rfl, mk_callV (by decide) (by decide) cv_2 (Or.inl tw_404) rfl (by decide +kernel)⟩, ?_⟩
  refine List.forall_mem_cons.mpr ⟨sn_if_le (off := 38) (by decide +kernel) (by decide), ?_⟩
  refine List.forall_mem_cons.mpr ⟨sn_aload_n (k := 0) (by decide +kernel), ?_⟩
  refine List.forall_mem_cons.mpr ⟨sn_getf (by decide +kernel) rfl tbX3 (by decide) tw_131, ?_⟩
  refine List.forall_mem_cons.mpr ⟨⟨i_6, rfl, mk_callV (by decide) (by decide) cv_6 (Or.inl tw_406) rfl (by decide +kernel)⟩, ?_⟩
  refine List.forall_mem_cons.mpr ⟨sn_istore_n (k := 3) (by decide +kernel) (by decide), ?_⟩
  refine List.forall_mem_cons.mpr ⟨sn_iinc (d := (-1)) (by decide +kernel) (by decide) (by decide), ?_⟩
  refine List.forall_mem_cons.mpr ⟨sn_aload_n (k := 0) (by decide +kernel), ?_⟩
  refine List.forall_mem_cons.mpr ⟨sn_aload_n (k := 0) (by decide +kernel), ?_⟩
  refine List.forall_mem_cons.mpr ⟨sn_iload_n (k := 3) (by decide +kernel), ?_⟩
  refine List.forall_mem_cons.mpr ⟨⟨i_62, rfl, mk_callV (by decide) (by decide) cv_62 (Or.inl tw_418) rfl (by decide +kernel)⟩, ?_⟩
  refine List.forall_mem_cons.mpr ⟨⟨i_70, rfl, mk_callV (by decide) (by decide) cv_70 (Or.inl tw_441) rfl (by decide +kernel)⟩, ?_⟩
  refine List.forall_mem_cons.mpr ⟨sn_aload_n (k := 0) (by decide +kernel), ?_⟩
  refine List.forall_mem_cons.mpr ⟨sn_aload_n (k := 0) (by decide +kernel), ?_⟩
  refine List.forall_mem_cons.mpr ⟨sn_iload_n (k := 3) (by decide +kernel), ?_⟩
  refine List.forall_mem_cons.mpr ⟨⟨i_63, rfl, mk_callV (by decide) (by decide) cv_63 (Or.inl tw_425) rfl (by decide +kernel)⟩, ?_⟩
  refine List.forall_mem_cons.mpr ⟨⟨i_70, rfl, mk_callV (by decide) (by decide) cv_70 (Or.inl tw_441) rfl (by decide +kernel)⟩, ?_⟩
  refine List.forall_mem_cons.mpr ⟨sn_iinc (d := 1) (by decide +kernel) (by decide) (by decide), ?_⟩
  refine List.forall_mem_cons.mpr ⟨sn_goto (off := (-53)) (by decide +kernel) (by decide), ?_⟩
  refine List.forall_mem_cons.mpr ⟨sn_iload_n (k := 1) (by decide +kernel), ?_⟩
  refine List.forall_mem_cons.mpr ⟨sn_if_ne (off := 7) (by decide +kernel) (by decide), ?_⟩
  refine List.forall_mem_cons.mpr ⟨sn_iconst (k := 1) (by decide +kernel) (by decide), ?_⟩
  refine List.forall_mem_cons.mpr ⟨sn_goto (off := 4) (by decide +kernel) (by decide), ?_⟩
  refine List.forall_mem_cons.mpr ⟨sn_iconst (k := 0) (by decide +kernel) (by decide), ?_⟩
  refine List.forall_mem_cons.mpr ⟨⟨rfl, (by decide +kernel : decode prog_5_method_14_code 186 = .ok (.ireturn, 1))⟩, ?_⟩
  exact fun _ h => absurd h List.not_mem_nil
set_option maxRecDepth 20000 in
theorem ok_68 : ∀ q ∈ mt_68, mx_ok mx_I0 i_68 q.1 q.2 := by
  refine List.forall_mem_cons.mpr ⟨sn_aload_n (k := 0) (by decide +kernel), ?_⟩
  refine List.forall_mem_cons.mpr ⟨sn_getf (by decide +kernel) rfl tbX3 (by decide) tw_129, ?_⟩
  refine List.forall_mem_cons.mpr ⟨sn_iload_n (k := 1) (by decide +kernel), ?_⟩
  refine List.forall_mem_cons.mpr ⟨⟨i_3, rfl, mk_callV (by decide) (by decide) cv_3 (Or.inl tw_380) rfl (by decide +kernel)⟩, ?_⟩
  refine List.forall_mem_cons.mpr ⟨sn_iconst (k := (-1)) (by decide +kernel) (by decide), ?_⟩
  refine List.forall_mem_cons.mpr ⟨sn_icmp_eq (off := 20) (by decide +kernel) (by decide), ?_⟩
  refine List.forall_mem_cons.mpr ⟨sn_aload_n (k := 0) (by decide +kernel), ?_⟩
  refine List.forall_mem_cons.mpr ⟨sn_getf (by decide +kernel) rfl tbX3 (by decide) tw_127, ?_⟩
  refine List.forall_mem_cons.mpr ⟨sn_iload_n (k := 1) (by decide +kernel), ?_⟩
  refine List.forall_mem_cons.mpr ⟨⟨i_26, rfl, mk_callV (by decide) (by decide) cv_26 (Or.inl tw_361) rfl (by decide +kernel)⟩, ?_⟩
  refine List.forall_mem_cons.mpr ⟨sn_bipush (k := 15) (by decide +kernel) (by decide), ?_⟩
  refine List.forall_mem_cons.mpr ⟨sn_icmp_eq (off := 7) (by decide +kernel) (by decide), ?_⟩
  refine List.forall_mem_cons.mpr ⟨sn_iconst (k := 1) (by decide +kernel) (by decide), ?_⟩
  refine List.forall_mem_cons.mpr ⟨sn_goto (off := 4) (by decide +kernel) (by decide), ?_⟩
  refine List.forall_mem_cons.mpr ⟨sn_iconst (k := 0) (by decide +kernel) (by decide), ?_⟩
  refine List.forall_mem_cons.mpr ⟨⟨rfl, (by decide +kernel : decode prog_5_method_15_code 30 = .ok (.ireturn, 1))⟩, ?_⟩
  exact fun _ h => absurd h List.not_mem_nil
set_option maxRecDepth 20000 in
theorem ok_69 : ∀ q ∈ mt_69, mx_ok mx_I0 i_69 q.1 q.2 := by
  refine List.forall_mem_cons.mpr ⟨sn_aload_n (k := 0) (by decide +kernel), ?_⟩
  refine List.forall_mem_cons.mpr ⟨sn_iload_n (k := 1) (by decide +kernel), ?_⟩
  refine List.forall_mem_cons.mpr ⟨⟨i_68, rfl, mk_callV (by decide) (by decide) cv_68 (Or.inl tw_433) rfl (by decide +kernel)⟩, ?_⟩
  refine List.forall_mem_cons.mpr ⟨sn_if_eq (off := 21) (by decide +kernel) (by decide), ?_⟩
  refine List.forall_mem_cons.mpr ⟨sn_aload_n (k := 0) (by decide +kernel), ?_⟩
  refine List.forall_mem_cons.mpr ⟨sn_getf (by decide +kernel) rfl tbX3 (by decide) tw_130, ?_⟩
  refine List.forall_mem_cons.mpr ⟨sn_iload_n (k := 1) (by decide +kernel), ?_⟩
  refine List.forall_mem_cons.mpr ⟨sn_aload_n (k := 0) (by decide +kernel), ?_⟩
  refine List.forall_mem_cons.mpr ⟨sn_getf (by decide +kernel) rfl tbX3 (by decide) tw_130, ?_⟩
  refine List.forall_mem_cons.mpr ⟨sn_iload_n (k := 1) (by decide +kernel), ?_⟩
  refine List.forall_mem_cons.mpr ⟨⟨i_3, rfl, mk_callV (by decide) (by decide) cv_3 (Or.inl tw_380) rfl (by decide +kernel)⟩, ?_⟩
  refine List.forall_mem_cons.mpr ⟨sn_iconst (k := 1) (by decide +kernel) (by decide), ?_⟩
  refine List.forall_mem_cons.mpr ⟨sn_iadd (by decide +kernel), ?_⟩
  refine List.forall_mem_cons.mpr ⟨⟨i_4, rfl, mk_callV (by decide) (by decide) cv_4 (Or.inl tw_381) rfl (by decide +kernel)⟩, ?_⟩
  refine List.forall_mem_cons.mpr ⟨⟨rfl, (by decide +kernel : decode prog_5_method_16_code 26 = .ok (.return_, 1))⟩, ?_⟩
  exact fun _ h => absurd h List.not_mem_nil
set_option maxRecDepth 20000 in
theorem ok_70 : ∀ q ∈ mt_70, mx_ok mx_I0 i_70 q.1 q.2 := by
  refine List.forall_mem_cons.mpr ⟨sn_aload_n (k := 0) (by decide +kernel), ?_⟩
  refine List.forall_mem_cons.mpr ⟨sn_iload_n (k := 1) (by decide +kernel), ?_⟩
  refine List.forall_mem_cons.mpr ⟨⟨i_68, rfl, mk_callV (by decide) (by decide) cv_68 (Or.inl tw_433) rfl (by decide +kernel)⟩, ?_⟩
  refine List.forall_mem_cons.mpr ⟨sn_if_eq (off := 40) (by decide +kernel) (by decide), ?_⟩
  refine List.forall_mem_cons.mpr ⟨sn_aload_n (k := 0) (by decide +kernel), ?_⟩
  refine List.forall_mem_cons.mpr ⟨sn_getf (by decide +kernel) rfl tbX3 (by decide) tw_130, ?_⟩
  refine List.forall_mem_cons.mpr ⟨sn_iload_n (k := 1) (by decide +kernel), ?_⟩
  refine List.forall_mem_cons.mpr ⟨sn_aload_n (k := 0) (by decide +kernel), ?_⟩
  refine List.forall_mem_cons.mpr ⟨sn_getf (by decide +kernel) rfl tbX3 (by decide) tw_130, ?_⟩
  refine List.forall_mem_cons.mpr ⟨sn_iload_n (k := 1) (by decide +kernel), ?_⟩
  refine List.forall_mem_cons.mpr ⟨⟨i_3, rfl, mk_callV (by decide) (by decide) cv_3 (Or.inl tw_380) rfl (by decide +kernel)⟩, ?_⟩
  refine List.forall_mem_cons.mpr ⟨sn_iconst (k := 1) (by decide +kernel) (by decide), ?_⟩
  refine List.forall_mem_cons.mpr ⟨sn_isub (by decide +kernel), ?_⟩
  refine List.forall_mem_cons.mpr ⟨⟨i_4, rfl, mk_callV (by decide) (by decide) cv_4 (Or.inl tw_381) rfl (by decide +kernel)⟩, ?_⟩
  refine List.forall_mem_cons.mpr ⟨sn_aload_n (k := 0) (by decide +kernel), ?_⟩
  refine List.forall_mem_cons.mpr ⟨sn_getf (by decide +kernel) rfl tbX3 (by decide) tw_130, ?_⟩
  refine List.forall_mem_cons.mpr ⟨sn_iload_n (k := 1) (by decide +kernel), ?_⟩
  refine List.forall_mem_cons.mpr ⟨⟨i_3, rfl, mk_callV (by decide) (by decide) cv_3 (Or.inl tw_380) rfl (by decide +kernel)⟩, ?_⟩
  refine List.forall_mem_cons.mpr ⟨sn_if_ne (off := 11) (by decide +kernel) (by decide), ?_⟩
  refine List.forall_mem_cons.mpr ⟨sn_aload_n (k := 0) (by decide +kernel), ?_⟩
  refine List.forall_mem_cons.mpr ⟨sn_getf (by decide +kernel) rfl tbX3 (by decide) tw_131, ?_⟩
  refine List.forall_mem_cons.mpr ⟨sn_iload_n (k := 1) (by decide +kernel), ?_⟩
  refine List.forall_mem_cons.mpr ⟨⟨i_5, rfl, mk_callV (by decide) (by decide) cv_5 (Or.inl tw_405) rfl (by decide +kernel)⟩, ?_⟩
  refine List.forall_mem_cons.mpr ⟨⟨rfl, (by decide +kernel : decode prog_5_method_17_code 45 = .ok (.return_, 1))⟩, ?_⟩
  exact fun _ h => absurd h List.not_mem_nil
set_option maxRecDepth 20000 in
theorem ok_71 : ∀ q ∈ mt_71, mx_ok mx_I0 i_71 q.1 q.2 := by
  refine List.forall_mem_cons.mpr ⟨sn_aload_n (k := 0) (by decide +kernel), ?_⟩
  refine List.forall_mem_cons.mpr ⟨sn_obj (by decide +kernel) tw_154 tw_90 tw_oi (by decide) (by decide), ?_⟩
  refine List.forall_mem_cons.mpr ⟨sn_aload_n (k := 0) (by decide +kernel), ?_⟩
  refine List.forall_mem_cons.mpr ⟨sn_new tyX6 (by decide +kernel) rfl tbX6 tyX6_ok tw_155 tw_99 tw_68 rfl (by decide), ?_⟩
  refine List.forall_mem_cons.mpr ⟨sn_dup (by decide +kernel), ?_⟩
  refine List.forall_mem_cons.mpr ⟨⟨i_1, rfl, mk_callI (by decide) (by decide) ci_1 (Or.inr ⟨_, tw_156⟩) (by decide +kernel)⟩, ?_⟩
  refine List.forall_mem_cons.mpr ⟨sn_putf tyX2 (by decide +kernel) rfl tbX2 tyX2_ok nmX2 (by decide) tw_159 (Or.inr ⟨rfl, rfl, rfl⟩) rfl, ?_⟩
  refine List.forall_mem_cons.mpr ⟨sn_aload_n (k := 0) (by decide +kernel), ?_⟩
  refine List.forall_mem_cons.mpr ⟨sn_new tyX6 (by decide +kernel) rfl tbX6 tyX6_ok tw_155 tw_99 tw_68 rfl (by decide), ?_⟩
  refine List.forall_mem_cons.mpr ⟨sn_dup (by decide +kernel), ?_⟩
  refine List.forall_mem_cons.mpr ⟨⟨i_1, rfl, mk_callI (by decide) (by decide) ci_1 (Or.inr ⟨_, tw_156⟩) (by decide +kernel)⟩, ?_⟩
  refine List.forall_mem_cons.mpr ⟨sn_putf tyX2 (by decide +kernel) rfl tbX2 tyX2_ok nmX2 (by decide) tw_160 (Or.inr ⟨rfl, rfl, rfl⟩) rfl, ?_⟩
  refine List.forall_mem_cons.mpr ⟨sn_aload_n (k := 0) (by decide +kernel), ?_⟩
  refine List.forall_mem_cons.mpr ⟨sn_new tyX1 (by decide +kernel) rfl tbX1 tyX1_ok tw_157 tw_93 tw_67 rfl (by decide), ?_⟩
  refine List.forall_mem_cons.mpr ⟨sn_dup (by decide +kernel), ?_⟩
  refine List.forall_mem_cons.mpr ⟨⟨i_24, rfl, mk_callI (by decide) (by decide) ci_24 (Or.inr ⟨_, tw_158⟩) (by decide +kernel)⟩, ?_⟩
  refine List.forall_mem_cons.mpr ⟨sn_putf tyX2 (by decide +kernel) rfl tbX2 tyX2_ok nmX2 (by decide) tw_161 (Or.inl rfl) rfl, ?_⟩
  refine List.forall_mem_cons.mpr ⟨sn_aload_n (k := 0) (by decide +kernel), ?_⟩
  refine List.forall_mem_cons.mpr ⟨sn_new tyX1 (by decide +kernel) rfl tbX1 tyX1_ok tw_157 tw_93 tw_67 rfl (by decide), ?_⟩
  refine List.forall_mem_cons.mpr ⟨sn_dup (by decide +kernel), ?_⟩
  refine List.forall_mem_cons.mpr ⟨⟨i_24, rfl, mk_callI (by decide) (by decide) ci_24 (Or.inr ⟨_, tw_158⟩) (by decide +kernel)⟩, ?_⟩
  refine List.forall_mem_cons.mpr ⟨sn_putf tyX2 (by decide +kernel) rfl tbX2 tyX2_ok nmX2 (by decide) tw_162 (Or.inl rfl) rfl, ?_⟩
  refine List.forall_mem_cons.mpr ⟨⟨rfl, (by decide +kernel : decode prog_4_method_1_code 48 = .ok (.return_, 1))⟩, ?_⟩
  exact fun _ h => absurd h List.not_mem_nil
set_option maxRecDepth 20000 in
theorem ok_72 : ∀ q ∈ mt_72, mx_ok mx_I0 i_72 q.1 q.2 := by
  refine List.forall_mem_cons.mpr ⟨sn_aload_n (k := 0) (by decide +kernel), ?_⟩
  refine List.forall_mem_cons.mpr ⟨sn_aload_n (k := 1) (by decide +kernel), ?_⟩
  refine List.forall_mem_cons.mpr ⟨sn_aload_n (k := 2) (by decide +kernel), ?_⟩
  refine List.forall_mem_cons.mpr ⟨⟨i_73, rfl, mk_callV (by decide) (by decide) cv_73 (Or.inl tw_453) rfl (by decide +kernel)⟩, ?_⟩
  refine List.forall_mem_cons.mpr ⟨sn_iconst (k := 0) (by decide +kernel) (by decide), ?_⟩
  refine List.forall_mem_cons.mpr ⟨sn_istore_n (k := 3) (by decide +kernel) (by decide), ?_⟩
  refine List.forall_mem_cons.mpr ⟨sn_iload_n (k := 3) (by decide +kernel), ?_⟩
  refine List.forall_mem_cons.mpr ⟨sn_iconst (k := 4) (by decide +kernel) (by decide), ?_⟩
  refine List.forall_mem_cons.mpr ⟨sn_icmp_ge (off := 41) (by decide +kernel) (by decide), ?_⟩
  refine List.forall_mem_cons.mpr ⟨sn_aload_n (k := 0) (by decide +kernel), ?_⟩
  refine List.forall_mem_cons.mpr ⟨sn_getf (by decide +kernel) rfl tbX2 (by decide) tw_161, ?_⟩
  refine List.forall_mem_cons.mpr ⟨sn_astore (k := 4) (by decide +kernel) (by decide), ?_⟩
  refine List.forall_mem_cons.mpr ⟨sn_aload_n (k := 0) (by decide +kernel), ?_⟩
  refine List.forall_mem_cons.mpr ⟨sn_aload_n (k := 0) (by decide +kernel), ?_⟩
  refine List.forall_mem_cons.mpr ⟨sn_getf (by decide +kernel) rfl tbX2 (by decide) tw_162, ?_⟩
  refine List.forall_mem_cons.mpr ⟨sn_putf tyX2 (by decide +kernel) rfl tbX2 tyX2_ok nmX2 (by decide) tw_161 (Or.inl rfl) rfl, ?_⟩
  refine List.forall_mem_cons.mpr ⟨sn_aload_n (k := 0) (by decide +kernel), ?_⟩
  refine List.forall_mem_cons.mpr ⟨sn_aload (k := 4) (by decide +kernel), ?_⟩
  refine List.forall_mem_cons.mpr ⟨sn_putf tyX2 (by decide +kernel) rfl tbX2 tyX2_ok nmX2 (by decide) tw_162 (Or.inl rfl) rfl, ?_⟩
  refine List.forall_mem_cons.mpr ⟨sn_aload_n (k := 0) (by decide +kernel), ?_⟩
  refine List.forall_mem_cons.mpr ⟨⟨i_74, rfl, mk_callV (by decide) (by decide) cv_74 (Or.inl tw_466) rfl (by decide +kernel)⟩, ?_⟩
  refine List.forall_mem_cons.mpr ⟨sn_aload_n (k := 0) (by decide +kernel), ?_⟩
  refine List.forall_mem_cons.mpr ⟨⟨i_75, rfl, mk_callV (by decide) (by decide) cv_75 (Or.inl tw_472) rfl (by decide +kernel)⟩, ?_⟩
  refine List.forall_mem_cons.mpr ⟨sn_aload_n (k := 0) (by decide +kernel), ?_⟩
  refine List.forall_mem_cons.mpr ⟨⟨i_77, rfl, mk_callV (by decide) (by decide) cv_77 (Or.inl tw_482) rfl (by decide +kernel)⟩, ?_⟩
  refine List.forall_mem_cons.mpr ⟨sn_iinc (d := 1) (by decide +kernel) (by decide) (by decide), ?_⟩
  refine List.forall_mem_cons.mpr ⟨sn_goto (off := (-40)) (by decide +kernel) (by decide), ?_⟩
  refine List.forall_mem_cons.mpr ⟨sn_aload_n (k := 0) (by decide +kernel), ?_⟩
  refine List.forall_mem_cons.mpr ⟨sn_getf (by decide +kernel) rfl tbX2 (by decide) tw_162, ?_⟩
  refine List.forall_mem_cons.mpr ⟨⟨rfl, (by decide +kernel : decode prog_4_method_2_code 55 = .ok (.areturn, 1))⟩, ?_⟩
  exact fun _ h => absurd h List.not_mem_nil
set_option maxRecDepth 20000 in
theorem ok_73 : ∀ q ∈ mt_73, mx_ok mx_I0 i_73 q.1 q.2 := by
  refine List.forall_mem_cons.mpr ⟨sn_aload_n (k := 0) (by decide +kernel), ?_⟩
  refine List.forall_mem_cons.mpr ⟨sn_getf (by decide +kernel) rfl tbX2 (by decide) tw_162, ?_⟩
  refine List.forall_mem_cons.mpr ⟨sn_iconst (k := 0) (by decide +kernel) (by decide), ?_⟩
  refine List.forall_mem_cons.mpr ⟨⟨i_29, rfl, mk_callV (by decide) (by decide) cv_29 (Or.inl tw_457) rfl (by decide +kernel)⟩, ?_⟩
  refine List.forall_mem_cons.mpr ⟨sn_iconst (k := 0) (by decide +kernel) (by decide), ?_⟩
  refine List.forall_mem_cons.mpr ⟨sn_istore_n (k := 3) (by decide +kernel) (by decide), ?_⟩
  refine List.forall_mem_cons.mpr ⟨sn_iload_n (k := 3) (by decide +kernel), ?_⟩
  refine List.forall_mem_cons.mpr ⟨sn_aload_n (k := 1) (by decide +kernel), ?_⟩
  refine List.forall_mem_cons.mpr ⟨⟨i_25, rfl, mk_callV (by decide) (by decide) cv_25 (Or.inl tw_458) rfl (by decide +kernel)⟩, ?_⟩
  refine List.forall_mem_cons.mpr ⟨sn_icmp_ge (off := 68) (by decide +kernel) (by decide), ?_⟩
  refine List.forall_mem_cons.mpr ⟨sn_aload_n (k := 1) (by decide +kernel), ?_⟩
  refine List.forall_mem_cons.mpr ⟨sn_iload_n (k := 3) (by decide +kernel), ?_⟩
  refine List.forall_mem_cons.mpr ⟨sn_iconst (k := 1) (by decide +kernel) (by decide), ?_⟩
  refine List.forall_mem_cons.mpr ⟨sn_isub (by decide +kernel), ?_⟩
  refine List.forall_mem_cons.mpr ⟨⟨i_26, rfl, mk_callV (by decide) (by decide) cv_26 (Or.inl tw_459) rfl (by decide +kernel)⟩, ?_⟩
  refine List.forall_mem_cons.mpr ⟨sn_bipush (k := 18) (by decide +kernel) (by decide), ?_⟩
  refine List.forall_mem_cons.mpr ⟨sn_icmp_ne (off := 17) (by decide +kernel) (by decide), ?_⟩
  refine List.forall_mem_cons.mpr ⟨sn_aload_n (k := 2) (by decide +kernel), ?_⟩
  refine List.forall_mem_cons.mpr ⟨sn_iload_n (k := 3) (by decide +kernel), ?_⟩
  refine List.forall_mem_cons.mpr ⟨sn_iconst (k := 1) (by decide +kernel) (by decide), ?_⟩
  refine List.forall_mem_cons.mpr ⟨sn_isub (by decide +kernel), ?_⟩
  refine List.forall_mem_cons.mpr ⟨⟨i_57, rfl, mk_callV (by decide) (by decide) cv_57 (Or.inl tw_460) rfl (by decide +kernel)⟩, ?_⟩
  refine List.forall_mem_cons.mpr ⟨sn_if_eq (off := 7) (by decide +kernel) (by decide), ?_⟩
  refine List.forall_mem_cons.mpr ⟨sn_iconst (k := 1) (by decide +kernel) (by decide), ?_⟩
  refine List.forall_mem_cons.mpr ⟨sn_goto (off := 4) (by decide +kernel) (by decide), ?_⟩
  refine List.forall_mem_cons.mpr ⟨sn_iconst (k := 0) (by decide +kernel) (by decide), ?_⟩
  refine List.forall_mem_cons.mpr ⟨sn_istore (k := 4) (by decide +kernel) (by decide), ?_⟩
  refine List.forall_mem_cons.mpr ⟨sn_iload (k := 4) (by decide +kernel), ?_⟩
  refine List.forall_mem_cons.mpr ⟨sn_if_ne (off := 11) (by decide +kernel) (by decide), ?_⟩
  refine List.forall_mem_cons.mpr ⟨sn_aload_n (k := 2) (by decide +kernel), ?_⟩
  refine List.forall_mem_cons.mpr ⟨sn_iload_n (k := 3) (by decide +kernel), ?_⟩
  refine List.forall_mem_cons.mpr ⟨⟨i_57, rfl, mk_callV (by decide) (by decide) cv_57 (Or.inl tw_460) rfl (by decide +kernel)⟩, ?_⟩
  refine List.forall_mem_cons.mpr ⟨sn_if_eq (off := 20) (by decide +kernel) (by decide), ?_⟩
  refine List.forall_mem_cons.mpr ⟨sn_aload_n (k := 0) (by decide +kernel), ?_⟩
  refine List.forall_mem_cons.mpr ⟨sn_getf (by decide +kernel) rfl tbX2 (by decide) tw_162, ?_⟩
  refine List.forall_mem_cons.mpr ⟨sn_aload_n (k := 1) (by decide +kernel), ?_⟩
  refine List.forall_mem_cons.mpr ⟨sn_iload_n (k := 3) (by decide +kernel), ?_⟩
  refine List.forall_mem_cons.mpr ⟨⟨i_26, rfl, mk_callV (by decide) (by decide) cv_26 (Or.inl tw_459) rfl (by decide +kernel)⟩, ?_⟩
  refine List.forall_mem_cons.mpr ⟨sn_aload_n (k := 1) (by decide +kernel), ?_⟩
  refine List.forall_mem_cons.mpr ⟨sn_iload_n (k := 3) (by decide +kernel), ?_⟩
  refine List.forall_mem_cons.mpr ⟨⟨i_27, rfl, mk_callV (by decide) (by decide) cv_27 (Or.inl tw_464) rfl (by decide +kernel)⟩, ?_⟩
  refine List.forall_mem_cons.mpr ⟨⟨i_28, rfl, mk_callV (by decide) (by decide) cv_28 (Or.inl tw_465) rfl (by decide +kernel)⟩, ?_⟩
  refine List.forall_mem_cons.mpr ⟨sn_iinc (d := 1) (by decide +kernel) (by decide) (by decide), ?_⟩
  refine List.forall_mem_cons.mpr ⟨sn_goto (off := (-70)) (by decide +kernel) (by decide), ?_⟩
  refine List.forall_mem_cons.mpr ⟨⟨rfl, (by decide +kernel : decode prog_4_method_3_code 83 = .ok (.return_, 1))⟩, ?_⟩
  exact fun _ h => absurd h List.not_mem_nil
set_option maxRecDepth 20000 in
theorem ok_74 : ∀ q ∈ mt_74, mx_ok mx_I0 i_74 q.1 q.2 := by
  refine List.forall_mem_cons.mpr ⟨sn_aload_n (k := 0) (by decide +kernel), ?_⟩
  refine List.forall_mem_cons.mpr ⟨sn_getf (by decide +kernel) rfl tbX2 (by decide) tw_159, ?_⟩
  refine List.forall_mem_cons.mpr ⟨sn_bipush (k := 100) (by decide +kernel) (by decide), ?_⟩
  refine List.forall_mem_cons.mpr ⟨sn_iconst (k := (-1)) (by decide +kernel) (by decide), ?_⟩
  refine List.forall_mem_cons.mpr ⟨⟨i_8, rfl, mk_callV (by decide) (by decide) cv_8 (Or.inl tw_470) rfl (by decide +kernel)⟩, ?_⟩
  refine List.forall_mem_cons.mpr ⟨sn_iconst (k := 0) (by decide +kernel) (by decide), ?_⟩
  refine List.forall_mem_cons.mpr ⟨sn_istore_n (k := 1) (by decide +kernel) (by decide), ?_⟩
  refine List.forall_mem_cons.mpr ⟨sn_iload_n (k := 1) (by decide +kernel), ?_⟩
  refine List.forall_mem_cons.mpr ⟨sn_aload_n (k := 0) (by decide +kernel), ?_⟩
  refine List.forall_mem_cons.mpr ⟨sn_getf (by decide +kernel) rfl tbX2 (by decide) tw_161, ?_⟩
  refine List.forall_mem_cons.mpr ⟨⟨i_25, rfl, mk_callV (by decide) (by decide) cv_25 (Or.inl tw_458) rfl (by decide +kernel)⟩, ?_⟩
  refine List.forall_mem_cons.mpr ⟨sn_icmp_ge (off := 38) (by decide +kernel) (by decide), ?_⟩
  refine List.forall_mem_cons.mpr ⟨sn_aload_n (k := 0) (by decide +kernel), ?_⟩
  refine List.forall_mem_cons.mpr ⟨sn_getf (by decide +kernel) rfl tbX2 (by decide) tw_161, ?_⟩
  refine List.forall_mem_cons.mpr ⟨sn_iload_n (k := 1) (by decide +kernel), ?_⟩
  refine List.forall_mem_cons.mpr ⟨⟨i_26, rfl, mk_callV (by decide) (by decide) cv_26 (Or.inl tw_459) rfl (by decide +kernel)⟩, ?_⟩
  refine List.forall_mem_cons.mpr ⟨sn_bipush (k := 13) (by decide +kernel) (by decide), ?_⟩
  refine List.forall_mem_cons.mpr ⟨sn_icmp_ne (off := 19) (by decide +kernel) (by decide), ?_⟩
  refine List.forall_mem_cons.mpr ⟨sn_aload_n (k := 0) (by decide +kernel), ?_⟩
  refine List.forall_mem_cons.mpr ⟨sn_getf (by decide +kernel) rfl tbX2 (by decide) tw_159, ?_⟩
  refine List.forall_mem_cons.mpr ⟨sn_aload_n (k := 0) (by decide +kernel), ?_⟩
  refine List.forall_mem_cons.mpr ⟨sn_getf (by decide +kernel) rfl tbX2 (by decide) tw_161, ?_⟩
  refine List.forall_mem_cons.mpr ⟨sn_iload_n (k := 1) (by decide +kernel), ?_⟩
  refine List.forall_mem_cons.mpr ⟨⟨i_27, rfl, mk_callV (by decide) (by decide) cv_27 (Or.inl tw_464) rfl (by decide +kernel)⟩, ?_⟩
  refine List.forall_mem_cons.mpr ⟨sn_iload_n (k := 1) (by decide +kernel), ?_⟩
  refine List.forall_mem_cons.mpr ⟨⟨i_4, rfl, mk_callV (by decide) (by decide) cv_4 (Or.inl tw_471) rfl (by decide +kernel)⟩, ?_⟩
  refine List.forall_mem_cons.mpr ⟨sn_iinc (d := 1) (by decide +kernel) (by decide) (by decide), ?_⟩
  refine List.forall_mem_cons.mpr ⟨sn_goto (off := (-43)) (by decide +kernel) (by decide), ?_⟩
  refine List.forall_mem_cons.mpr ⟨⟨rfl, (by decide +kernel : decode prog_4_method_4_code 58 = .ok (.return_, 1))⟩, ?_⟩
  exact fun _ h => absurd h List.not_mem_nil
set_option maxRecDepth 20000 in
theorem ok_75 : ∀ q ∈ mt_75, mx_ok mx_I0 i_75 q.1 q.2 := by
  refine List.forall_mem_cons.mpr ⟨sn_aload_n (k := 0) (by decide +kernel), ?_⟩
  refine List.forall_mem_cons.mpr ⟨sn_getf (by decide +kernel) rfl tbX2 (by decide) tw_160, ?_⟩
  refine List.forall_mem_cons.mpr ⟨sn_bipush (k := 100) (by decide +kernel) (by decide), ?_⟩
  refine List.forall_mem_cons.mpr ⟨sn_iconst (k := 0) (by decide +kernel) (by decide), ?_⟩
  refine List.forall_mem_cons.mpr ⟨⟨i_8, rfl, mk_callV (by decide) (by decide) cv_8 (Or.inl tw_470) rfl (by decide +kernel)⟩, ?_⟩
  refine List.forall_mem_cons.mpr ⟨sn_iconst (k := 0) (by decide +kernel) (by decide), ?_⟩
  refine List.forall_mem_cons.mpr ⟨sn_istore_n (k := 1) (by decide +kernel) (by decide), ?_⟩
  refine List.forall_mem_cons.mpr ⟨sn_iload_n (k := 1) (by decide +kernel), ?_⟩
  refine List.forall_mem_cons.mpr ⟨sn_aload_n (k := 0) (by decide +kernel), ?_⟩
  refine List.forall_mem_cons.mpr ⟨sn_getf (by decide +kernel) rfl tbX2 (by decide) tw_161, ?_⟩
  refine List.forall_mem_cons.mpr ⟨⟨i_25, rfl, mk_callV (by decide) (by decide) cv_25 (Or.inl tw_458) rfl (by decide +kernel)⟩, ?_⟩
  refine List.forall_mem_cons.mpr ⟨sn_icmp_ge (off := 54) (by decide +kernel) (by decide), ?_⟩
  refine List.forall_mem_cons.mpr ⟨sn_aload_n (k := 0) (by decide +kernel), ?_⟩
  refine List.forall_mem_cons.mpr ⟨sn_getf (by decide +kernel) rfl tbX2 (by decide) tw_161, ?_⟩
  refine List.forall_mem_cons.mpr ⟨sn_iload_n (k := 1) (by decide +kernel), ?_⟩
  refine List.forall_mem_cons.mpr ⟨⟨i_26, rfl, mk_callV (by decide) (by decide) cv_26 (Or.inl tw_459) rfl (by decide +kernel)⟩, ?_⟩
  refine List.forall_mem_cons.mpr ⟨⟨i_114, rfl, mk_callS (by decide) (by decide) cs_114 (Or.inr ⟨_, tw_476⟩) (by decide +kernel)⟩, ?_⟩
  refine List.forall_mem_cons.mpr ⟨sn_if_eq (off := 34) (by decide +kernel) (by decide), ?_⟩
  refine List.forall_mem_cons.mpr ⟨sn_aload_n (k := 0) (by decide +kernel), ?_⟩
  refine List.forall_mem_cons.mpr ⟨sn_aload_n (k := 0) (by decide +kernel), ?_⟩
  refine List.forall_mem_cons.mpr ⟨sn_getf (by decide +kernel) rfl tbX2 (by decide) tw_161, ?_⟩
  refine List.forall_mem_cons.mpr ⟨sn_iload_n (k := 1) (by decide +kernel), ?_⟩
  refine List.forall_mem_cons.mpr ⟨⟨i_27, rfl, mk_callV (by decide) (by decide) cv_27 (Or.inl tw_464) rfl (by decide +kernel)⟩, ?_⟩
  refine List.forall_mem_cons.mpr ⟨⟨i_76, rfl, mk_callV (by decide) (by decide) cv_76 (Or.inl tw_477) rfl (by decide +kernel)⟩, ?_⟩
  refine List.forall_mem_cons.mpr ⟨sn_istore_n (k := 2) (by decide +kernel) (by decide), ?_⟩
  refine List.forall_mem_cons.mpr ⟨sn_aload_n (k := 0) (by decide +kernel), ?_⟩
  refine List.forall_mem_cons.mpr ⟨sn_getf (by decide +kernel) rfl tbX2 (by decide) tw_160, ?_⟩
  refine List.forall_mem_cons.mpr ⟨sn_iload_n (k := 2) (by decide +kernel), ?_⟩
  refine List.forall_mem_cons.mpr ⟨sn_aload_n (k := 0) (by decide +kernel), ?_⟩
  refine List.forall_mem_cons.mpr ⟨sn_getf (by decide +kernel) rfl tbX2 (by decide) tw_160, ?_⟩
  refine List.forall_mem_cons.mpr ⟨sn_iload_n (k := 2) (by decide +kernel), ?_⟩
  refine List.forall_mem_cons.mpr ⟨⟨i_3, rfl, mk_callV (by decide) (by decide) cv_3 (Or.inl tw_481) rfl (by decide +kernel)⟩, ?_⟩
  refine List.forall_mem_cons.mpr ⟨sn_iconst (k := 1) (by decide +kernel) (by decide), ?_⟩
  refine List.forall_mem_cons.mpr ⟨sn_iadd (by decide +kernel), ?_⟩
  refine List.forall_mem_cons.mpr ⟨⟨i_4, rfl, mk_callV (by decide) (by decide) cv_4 (Or.inl tw_471) rfl (by decide +kernel)⟩, ?_⟩
  refine List.forall_mem_cons.mpr ⟨sn_iinc (d := 1) (by decide +kernel) (by decide) (by decide), ?_⟩
  refine List.forall_mem_cons.mpr ⟨sn_goto (off := (-59)) (by decide +kernel) (by decide), ?_⟩
  refine List.forall_mem_cons.mpr ⟨⟨rfl, (by decide +kernel : decode prog_4_method_5_code 74 = .ok (.return_, 1))⟩, ?_⟩
  exact fun _ h => absurd h List.not_mem_nil
set_option maxRecDepth 20000 in
theorem ok_76 : ∀ q ∈ mt_76, mx_ok mx_I0 i_76 q.1 q.2 := by
  refine List.forall_mem_cons.mpr ⟨sn_iload_n (k := 1) (by decide +kernel), ?_⟩
  refine List.forall_mem_cons.mpr ⟨sn_istore_n (k := 2) (by decide +kernel) (by decide), ?_⟩
  refine List.forall_mem_cons.mpr ⟨sn_iconst (k := 0) (by decide +kernel) (by decide), ?_⟩
  refine List.forall_mem_cons.mpr ⟨sn_istore_n (k := 3) (by decide +kernel) (by decide), ?_⟩
  refine List.forall_mem_cons.mpr ⟨sn_iload_n (k := 3) (by decide +kernel), ?_⟩
  refine List.forall_mem_cons.mpr ⟨sn_bipush (k := 100) (by decide +kernel) (by decide), ?_⟩
  refine List.forall_mem_cons.mpr ⟨sn_icmp_ge (off := 58) (by decide +kernel) (by decide), ?_⟩
  refine List.forall_mem_cons.mpr ⟨sn_aload_n (k := 0) (by decide +kernel), ?_⟩
  refine List.forall_mem_cons.mpr ⟨sn_getf (by decide +kernel) rfl tbX2 (by decide) tw_159, ?_⟩
  refine List.forall_mem_cons.mpr ⟨sn_iload_n (k := 2) (by decide +kernel), ?_⟩
  refine List.forall_mem_cons.mpr ⟨⟨i_3, rfl, mk_callV (by decide) (by decide) cv_3 (Or.inl tw_481) rfl (by decide +kernel)⟩, ?_⟩
  refine List.forall_mem_cons.mpr ⟨sn_iconst (k := 1) (by decide +kernel) (by decide), ?_⟩
  refine List.forall_mem_cons.mpr ⟨sn_iadd (by decide +kernel), ?_⟩
  refine List.forall_mem_cons.mpr ⟨sn_istore (k := 4) (by decide +kernel) (by decide), ?_⟩
  refine List.forall_mem_cons.mpr ⟨sn_aload_n (k := 0) (by decide +kernel), ?_⟩
  refine List.forall_mem_cons.mpr ⟨sn_getf (by decide +kernel) rfl tbX2 (by decide) tw_161, ?_⟩
  refine List.forall_mem_cons.mpr ⟨sn_iload (k := 4) (by decide +kernel), ?_⟩
  refine List.forall_mem_cons.mpr ⟨⟨i_26, rfl, mk_callV (by decide) (by decide) cv_26 (Or.inl tw_459) rfl (by decide +kernel)⟩, ?_⟩
  refine List.forall_mem_cons.mpr ⟨sn_istore (k := 5) (by decide +kernel) (by decide), ?_⟩
  refine List.forall_mem_cons.mpr ⟨sn_iload (k := 5) (by decide +kernel), ?_⟩
  refine List.forall_mem_cons.mpr ⟨sn_bipush (k := 13) (by decide +kernel) (by decide), ?_⟩
  refine List.forall_mem_cons.mpr ⟨sn_icmp_eq (off := 12) (by decide +kernel) (by decide), ?_⟩
  refine List.forall_mem_cons.mpr ⟨sn_iload (k := 5) (by decide +kernel), ?_⟩
  refine List.forall_mem_cons.mpr ⟨sn_bipush (k := 10) (by decide +kernel) (by decide), ?_⟩
  refine List.forall_mem_cons.mpr ⟨sn_icmp_eq (off := 5) (by decide +kernel) (by decide), ?_⟩
  refine List.forall_mem_cons.mpr ⟨sn_iload_n (k := 2) (by decide +kernel), ?_⟩
  refine List.forall_mem_cons.mpr ⟨⟨rfl, (by decide +kernel : decode prog_4_method_6_code 48 = .ok (.ireturn, 1))⟩, ?_⟩
  refine List.forall_mem_cons.mpr ⟨sn_aload_n (k := 0) (by decide +kernel), ?_⟩
  refine List.forall_mem_cons.mpr ⟨sn_getf (by decide +kernel) rfl tbX2 (by decide) tw_161, ?_⟩
  refine List.forall_mem_cons.mpr ⟨sn_iload (k := 4) (by decide +kernel), ?_⟩
  refine List.forall_mem_cons.mpr ⟨⟨i_27, rfl, mk_callV (by decide) (by decide) cv_27 (Or.inl tw_464) rfl (by decide +kernel)⟩, ?_⟩
  refine List.forall_mem_cons.mpr ⟨sn_istore_n (k := 2) (by decide +kernel) (by decide), ?_⟩
  refine List.forall_mem_cons.mpr ⟨sn_iinc (d := 1) (by decide +kernel) (by decide) (by decide), ?_⟩
  refine List.forall_mem_cons.mpr ⟨sn_goto (off := (-58)) (by decide +kernel) (by decide), ?_⟩
  refine List.forall_mem_cons.mpr ⟨sn_iload_n (k := 2) (by decide +kernel), ?_⟩
  refine List.forall_mem_cons.mpr ⟨⟨rfl, (by decide +kernel : decode prog_4_method_6_code 66 = .ok (.ireturn, 1))⟩, ?_⟩
  exact fun _ h => absurd h List.not_mem_nil
set_option maxRecDepth 20000 in
theorem ok_77 : ∀ q ∈ mt_77, mx_ok mx_I0 i_77 q.1 q.2 := by
  refine List.forall_mem_cons.mpr ⟨sn_aload_n (k := 0) (by decide +kernel), ?_⟩
  refine List.forall_mem_cons.mpr ⟨sn_getf (by decide +kernel) rfl tbX2 (by decide) tw_162, ?_⟩
  refine List.forall_mem_cons.mpr ⟨sn_iconst (k := 0) (by decide +kernel) (by decide), ?_⟩
  refine List.forall_mem_cons.mpr ⟨⟨i_29, rfl, mk_callV (by decide) (by decide) cv_29 (Or.inl tw_457) rfl (by decide +kernel)⟩, ?_⟩
  refine List.forall_mem_cons.mpr ⟨sn_iconst (k := 0) (by decide +kernel) (by decide), ?_⟩
  refine List.forall_mem_cons.mpr ⟨sn_istore_n (k := 1) (by decide +kernel) (by decide), ?_⟩
  refine List.forall_mem_cons.mpr ⟨sn_iconst (k := 0) (by decide +kernel) (by decide), ?_⟩
  refine List.forall_mem_cons.mpr ⟨sn_istore_n (k := 2) (by decide +kernel) (by decide), ?_⟩
  refine List.forall_mem_cons.mpr ⟨sn_iload_n (k := 2) (by decide +kernel), ?_⟩
  refine List.forall_mem_cons.mpr ⟨sn_aload_n (k := 0) (by decide +kernel), ?_⟩
  refine List.forall_mem_cons.mpr ⟨sn_getf (by decide +kernel) rfl tbX2 (by decide) tw_161, ?_⟩
  refine List.forall_mem_cons.mpr ⟨⟨i_25, rfl, mk_callV (by decide) (by decide) cv_25 (Or.inl tw_458) rfl (by decide +kernel)⟩, ?_⟩
  refine List.forall_mem_cons.mpr ⟨sn_icmp_ge (off := 114) (by decide +kernel) (by decide), ?_⟩
  refine List.forall_mem_cons.mpr ⟨sn_aload_n (k := 0) (by decide +kernel), ?_⟩
  refine List.forall_mem_cons.mpr ⟨sn_getf (by decide +kernel) rfl tbX2 (by decide) tw_161, ?_⟩
  refine List.forall_mem_cons.mpr ⟨sn_iload_n (k := 2) (by decide +kernel), ?_⟩
  refine List.forall_mem_cons.mpr ⟨⟨i_26, rfl, mk_callV (by decide) (by decide) cv_26 (Or.inl tw_459) rfl (by decide +kernel)⟩, ?_⟩
  refine List.forall_mem_cons.mpr ⟨sn_istore_n (k := 3) (by decide +kernel) (by decide), ?_⟩
  refine List.forall_mem_cons.mpr ⟨sn_aload_n (k := 0) (by decide +kernel), ?_⟩
  refine List.forall_mem_cons.mpr ⟨sn_getf (by decide +kernel) rfl tbX2 (by decide) tw_161, ?_⟩
  refine List.forall_mem_cons.mpr ⟨sn_iload_n (k := 2) (by decide +kernel), ?_⟩
  refine List.forall_mem_cons.mpr ⟨⟨i_27, rfl, mk_callV (by decide) (by decide) cv_27 (Or.inl tw_464) rfl (by decide +kernel)⟩, ?_⟩
  refine List.forall_mem_cons.mpr ⟨sn_istore (k := 4) (by decide +kernel) (by decide), ?_⟩
  refine List.forall_mem_cons.mpr ⟨sn_iload_n (k := 3) (by decide +kernel), ?_⟩
  refine List.forall_mem_cons.mpr ⟨sn_bipush (k := 13) (by decide +kernel) (by decide), ?_⟩
  refine List.forall_mem_cons.mpr ⟨sn_icmp_ne (off := 18) (by decide +kernel) (by decide), ?_⟩
  refine List.forall_mem_cons.mpr ⟨sn_aload_n (k := 0) (by decide +kernel), ?_⟩
  refine List.forall_mem_cons.mpr ⟨sn_getf (by decide +kernel) rfl tbX2 (by decide) tw_160, ?_⟩
  refine List.forall_mem_cons.mpr ⟨sn_iload (k := 4) (by decide +kernel), ?_⟩
  refine List.forall_mem_cons.mpr ⟨⟨i_3, rfl, mk_callV (by decide) (by decide) cv_3 (Or.inl tw_481) rfl (by decide +kernel)⟩, ?_⟩
  refine List.forall_mem_cons.mpr ⟨sn_if_ne (off := 6) (by decide +kernel) (by decide), ?_⟩
  refine List.forall_mem_cons.mpr ⟨sn_goto (off := 68) (by decide +kernel) (by decide), ?_⟩
  refine List.forall_mem_cons.mpr ⟨sn_iload_n (k := 1) (by decide +kernel), ?_⟩
  refine List.forall_mem_cons.mpr ⟨sn_if_eq (off := 12) (by decide +kernel) (by decide), ?_⟩
  refine List.forall_mem_cons.mpr ⟨sn_iload_n (k := 3) (by decide +kernel), ?_⟩
  refine List.forall_mem_cons.mpr ⟨sn_bipush (k := 13) (by decide +kernel) (by decide), ?_⟩
  refine List.forall_mem_cons.mpr ⟨sn_icmp_eq (off := 6) (by decide +kernel) (by decide), ?_⟩
  refine List.forall_mem_cons.mpr ⟨sn_goto (off := 55) (by decide +kernel) (by decide), ?_⟩
  refine List.forall_mem_cons.mpr ⟨sn_iload_n (k := 3) (by decide +kernel), ?_⟩
  refine List.forall_mem_cons.mpr ⟨⟨i_114, rfl, mk_callS (by decide) (by decide) cs_114 (Or.inr ⟨_, tw_476⟩) (by decide +kernel)⟩, ?_⟩
  refine List.forall_mem_cons.mpr ⟨sn_if_eq (off := 12) (by decide +kernel) (by decide), ?_⟩
  refine List.forall_mem_cons.mpr ⟨sn_aload_n (k := 0) (by decide +kernel), ?_⟩
  refine List.forall_mem_cons.mpr ⟨sn_iload (k := 4) (by decide +kernel), ?_⟩
  refine List.forall_mem_cons.mpr ⟨⟨i_76, rfl, mk_callV (by decide) (by decide) cv_76 (Or.inl tw_477) rfl (by decide +kernel)⟩, ?_⟩
  refine List.forall_mem_cons.mpr ⟨sn_goto (off := 5) (by decide +kernel) (by decide), ?_⟩
  refine List.forall_mem_cons.mpr ⟨sn_iload (k := 4) (by decide +kernel), ?_⟩
  refine List.forall_mem_cons.mpr ⟨sn_istore (k := 5) (by decide +kernel) (by decide), ?_⟩
  refine List.forall_mem_cons.mpr ⟨sn_aload_n (k := 0) (by decide +kernel), ?_⟩
  refine List.forall_mem_cons.mpr ⟨sn_iload_n (k := 3) (by decide +kernel), ?_⟩
  refine List.forall_mem_cons.mpr ⟨sn_iload (k := 5) (by decide +kernel), ?_⟩
  refine List.forall_mem_cons.mpr ⟨⟨i_78, rfl, mk_callV (by decide) (by decide) cv_78 (Or.inl tw_486) rfl (by decide +kernel)⟩, ?_⟩
  refine List.forall_mem_cons.mpr ⟨sn_if_ne (off := 13) (by decide +kernel) (by decide), ?_⟩
  refine List.forall_mem_cons.mpr ⟨sn_aload_n (k := 0) (by decide +kernel), ?_⟩
  refine List.forall_mem_cons.mpr ⟨sn_getf (by decide +kernel) rfl tbX2 (by decide) tw_162, ?_⟩
  refine List.forall_mem_cons.mpr ⟨sn_iload_n (k := 3) (by decide +kernel), ?_⟩
  refine List.forall_mem_cons.mpr ⟨sn_iload (k := 5) (by decide +kernel), ?_⟩
  refine List.forall_mem_cons.mpr ⟨⟨i_28, rfl, mk_callV (by decide) (by decide) cv_28 (Or.inl tw_465) rfl (by decide +kernel)⟩, ?_⟩
  refine List.forall_mem_cons.mpr ⟨sn_aload_n (k := 0) (by decide +kernel), ?_⟩
  refine List.forall_mem_cons.mpr ⟨sn_getf (by decide +kernel) rfl tbX2 (by decide) tw_162, ?_⟩
  refine List.forall_mem_cons.mpr ⟨sn_iconst (k := 0) (by decide +kernel) (by decide), ?_⟩
  refine List.forall_mem_cons.mpr ⟨⟨i_30, rfl, mk_callV (by decide) (by decide) cv_30 (Or.inl tw_494) rfl (by decide +kernel)⟩, ?_⟩
  refine List.forall_mem_cons.mpr ⟨⟨i_115, rfl, mk_callS (by decide) (by decide) cs_115 (Or.inr ⟨_, tw_553⟩) (by decide +kernel)⟩, ?_⟩
  refine List.forall_mem_cons.mpr ⟨sn_istore_n (k := 1) (by decide +kernel) (by decide), ?_⟩
  refine List.forall_mem_cons.mpr ⟨sn_iinc (d := 1) (by decide +kernel) (by decide) (by decide), ?_⟩
  refine List.forall_mem_cons.mpr ⟨sn_goto (off := (-119)) (by decide +kernel) (by decide), ?_⟩
  refine List.forall_mem_cons.mpr ⟨⟨rfl, (by decide +kernel : decode prog_4_method_7_code 134 = .ok (.return_, 1))⟩, ?_⟩
  exact fun _ h => absurd h List.not_mem_nil
set_option maxRecDepth 20000 in
theorem ok_78 : ∀ q ∈ mt_78, mx_ok mx_I0 i_78 q.1 q.2 := by
  refine List.forall_mem_cons.mpr ⟨sn_iload_n (k := 1) (by decide +kernel), ?_⟩
  refine List.forall_mem_cons.mpr ⟨sn_table (df := 92) (offs := #[55, 55, 61, 67, 92, 92, 78, 78, 85, 73]) (len := 55) (by decide +kernel) (by decide) (by decide), ?_⟩
  refine List.forall_mem_cons.mpr ⟨sn_aload_n (k := 0) (by decide +kernel), ?_⟩
  refine List.forall_mem_cons.mpr ⟨sn_iload_n (k := 1) (by decide +kernel), ?_⟩
  refine List.forall_mem_cons.mpr ⟨⟨i_79, rfl, mk_callV (by decide) (by decide) cv_79 (Or.inl tw_490) rfl (by decide +kernel)⟩, ?_⟩
  refine List.forall_mem_cons.mpr ⟨⟨rfl, (by decide +kernel : decode prog_4_method_8_code 61 = .ok (.ireturn, 1))⟩, ?_⟩
  refine List.forall_mem_cons.mpr ⟨sn_aload_n (k := 0) (by decide +kernel), ?_⟩
  refine List.forall_mem_cons.mpr ⟨sn_iload_n (k := 2) (by decide +kernel), ?_⟩
  refine List.forall_mem_cons.mpr ⟨⟨i_80, rfl, mk_callV (by decide) (by decide) cv_80 (Or.inl tw_514) rfl (by decide +kernel)⟩, ?_⟩
  refine List.forall_mem_cons.mpr ⟨⟨rfl, (by decide +kernel : decode prog_4_method_8_code 67 = .ok (.ireturn, 1))⟩, ?_⟩
  refine List.forall_mem_cons.mpr ⟨sn_aload_n (k := 0) (by decide +kernel), ?_⟩
  refine List.forall_mem_cons.mpr ⟨sn_iload_n (k := 2) (by decide +kernel), ?_⟩
  refine List.forall_mem_cons.mpr ⟨⟨i_81, rfl, mk_callV (by decide) (by decide) cv_81 (Or.inl tw_527) rfl (by decide +kernel)⟩, ?_⟩
  refine List.forall_mem_cons.mpr ⟨⟨rfl, (by decide +kernel : decode prog_4_method_8_code 73 = .ok (.ireturn, 1))⟩, ?_⟩
  refine List.forall_mem_cons.mpr ⟨sn_aload_n (k := 0) (by decide +kernel), ?_⟩
  refine List.forall_mem_cons.mpr ⟨⟨i_82, rfl, mk_callV (by decide) (by decide) cv_82 (Or.inl tw_537) rfl (by decide +kernel)⟩, ?_⟩
  refine List.forall_mem_cons.mpr ⟨⟨rfl, (by decide +kernel : decode prog_4_method_8_code 78 = .ok (.ireturn, 1))⟩, ?_⟩
  refine List.forall_mem_cons.mpr ⟨sn_aload_n (k := 0) (by decide +kernel), ?_⟩
  refine List.forall_mem_cons.mpr ⟨sn_iload_n (k := 1) (by decide +kernel), ?_⟩
  refine List.forall_mem_cons.mpr ⟨sn_iload_n (k := 2) (by decide +kernel), ?_⟩
  refine List.forall_mem_cons.mpr ⟨⟨i_83, rfl, mk_callV (by decide) (by decide) cv_83 (Or.inl tw_541) rfl (by decide +kernel)⟩, ?_⟩
  refine List.forall_mem_cons.mpr ⟨⟨rfl, (by decide +kernel : decode prog_4_method_8_code 85 = .ok (.ireturn, 1))⟩, ?_⟩
  refine List.forall_mem_cons.mpr ⟨sn_aload_n (k := 0) (by decide +kernel), ?_⟩
  refine List.forall_mem_cons.mpr ⟨sn_iload_n (k := 2) (by decide +kernel), ?_⟩
  refine List.forall_mem_cons.mpr ⟨⟨i_85, rfl, mk_callV (by decide) (by decide) cv_85 (Or.inl tw_548) rfl (by decide +kernel)⟩, ?_⟩
  refine List.forall_mem_cons.mpr ⟨sn_iconst (k := 0) (by decide +kernel) (by decide), ?_⟩
  refine List.forall_mem_cons.mpr ⟨⟨rfl, (by decide +kernel : decode prog_4_method_8_code 92 = .ok (.ireturn, 1))⟩, ?_⟩
  refine List.forall_mem_cons.mpr ⟨sn_iconst (k := 0) (by decide +kernel) (by decide), ?_⟩
  refine List.forall_mem_cons.mpr ⟨⟨rfl, (by decide +kernel : decode prog_4_method_8_code 94 = .ok (.ireturn, 1))⟩, ?_⟩
  exact fun _ h => absurd h List.not_mem_nil
set_option maxRecDepth 20000 in
theorem ok_79 : ∀ q ∈ mt_79, mx_ok mx_I0 i_79 q.1 q.2 := by
  refine List.forall_mem_cons.mpr ⟨sn_aload_n (k := 0) (by decide +kernel), ?_⟩
  refine List.forall_mem_cons.mpr ⟨sn_getf (by decide +kernel) rfl tbX2 (by decide) tw_162, ?_⟩
  refine List.forall_mem_cons.mpr ⟨sn_iconst (k := 0) (by decide +kernel) (by decide), ?_⟩
  refine List.forall_mem_cons.mpr ⟨⟨i_30, rfl, mk_callV (by decide) (by decide) cv_30 (Or.inl tw_494) rfl (by decide +kernel)⟩, ?_⟩
  refine List.forall_mem_cons.mpr ⟨sn_istore_n (k := 2) (by decide +kernel) (by decide), ?_⟩
  refine List.forall_mem_cons.mpr ⟨sn_iload_n (k := 2) (by decide +kernel), ?_⟩
  refine List.forall_mem_cons.mpr ⟨sn_if_ne (off := 36) (by decide +kernel) (by decide), ?_⟩
  refine List.forall_mem_cons.mpr ⟨sn_aload_n (k := 0) (by decide +kernel), ?_⟩
  refine List.forall_mem_cons.mpr ⟨sn_getf (by decide +kernel) rfl tbX2 (by decide) tw_162, ?_⟩
  refine List.forall_mem_cons.mpr ⟨sn_iconst (k := 0) (by decide +kernel) (by decide), ?_⟩
  refine List.forall_mem_cons.mpr ⟨⟨i_31, rfl, mk_callV (by decide) (by decide) cv_31 (Or.inl tw_498) rfl (by decide +kernel)⟩, ?_⟩
  refine List.forall_mem_cons.mpr ⟨sn_istore_n (k := 3) (by decide +kernel) (by decide), ?_⟩
  refine List.forall_mem_cons.mpr ⟨sn_aload_n (k := 0) (by decide +kernel), ?_⟩
  refine List.forall_mem_cons.mpr ⟨sn_getf (by decide +kernel) rfl tbX2 (by decide) tw_162, ?_⟩
  refine List.forall_mem_cons.mpr ⟨sn_iconst (k := 1) (by decide +kernel) (by decide), ?_⟩
  refine List.forall_mem_cons.mpr ⟨sn_iconst (k := 0) (by decide +kernel) (by decide), ?_⟩
  refine List.forall_mem_cons.mpr ⟨sn_iload_n (k := 1) (by decide +kernel), ?_⟩
  refine List.forall_mem_cons.mpr ⟨sn_iconst (k := 5) (by decide +kernel) (by decide), ?_⟩
  refine List.forall_mem_cons.mpr ⟨sn_icmp_ne (off := 8) (by decide +kernel) (by decide), ?_⟩
  refine List.forall_mem_cons.mpr ⟨sn_iload_n (k := 3) (by decide +kernel), ?_⟩
  refine List.forall_mem_cons.mpr ⟨sn_ineg (by decide +kernel), ?_⟩
  refine List.forall_mem_cons.mpr ⟨sn_goto (off := 6) (by decide +kernel) (by decide), ?_⟩
  refine List.forall_mem_cons.mpr ⟨sn_iload_n (k := 3) (by decide +kernel), ?_⟩
  refine List.forall_mem_cons.mpr ⟨sn_iconst (k := (-1)) (by decide +kernel) (by decide), ?_⟩
  refine List.forall_mem_cons.mpr ⟨sn_ixor (by decide +kernel), ?_⟩
  refine List.forall_mem_cons.mpr ⟨⟨i_33, rfl, mk_callV (by decide) (by decide) cv_33 (Or.inl tw_502) rfl (by decide +kernel)⟩, ?_⟩
  refine List.forall_mem_cons.mpr ⟨sn_iconst (k := 1) (by decide +kernel) (by decide), ?_⟩
  refine List.forall_mem_cons.mpr ⟨⟨rfl, (by decide +kernel : decode prog_4_method_9_code 45 = .ok (.ireturn, 1))⟩, ?_⟩
  refine List.forall_mem_cons.mpr ⟨sn_iload_n (k := 2) (by decide +kernel), ?_⟩
  refine List.forall_mem_cons.mpr ⟨sn_iload_n (k := 1) (by decide +kernel), ?_⟩
  refine List.forall_mem_cons.mpr ⟨sn_icmp_ne (off := 12) (by decide +kernel) (by decide), ?_⟩
  refine List.forall_mem_cons.mpr ⟨sn_aload_n (k := 0) (by decide +kernel), ?_⟩
  refine List.forall_mem_cons.mpr ⟨sn_getf (by decide +kernel) rfl tbX2 (by decide) tw_162, ?_⟩
  refine List.forall_mem_cons.mpr ⟨⟨i_32, rfl, mk_callV (by decide) (by decide) cv_32 (Or.inl tw_506) rfl (by decide +kernel)⟩, ?_⟩
  refine List.forall_mem_cons.mpr ⟨sn_iconst (k := 1) (by decide +kernel) (by decide), ?_⟩
  refine List.forall_mem_cons.mpr ⟨⟨rfl, (by decide +kernel : decode prog_4_method_9_code 59 = .ok (.ireturn, 1))⟩, ?_⟩
  refine List.forall_mem_cons.mpr ⟨sn_iload_n (k := 2) (by decide +kernel), ?_⟩
  refine List.forall_mem_cons.mpr ⟨sn_bipush (k := 8) (by decide +kernel) (by decide), ?_⟩
  refine List.forall_mem_cons.mpr ⟨sn_icmp_ne (off := 32) (by decide +kernel) (by decide), ?_⟩
  refine List.forall_mem_cons.mpr ⟨sn_iload_n (k := 1) (by decide +kernel), ?_⟩
  refine List.forall_mem_cons.mpr ⟨sn_bipush (k := 6) (by decide +kernel) (by decide), ?_⟩
  refine List.forall_mem_cons.mpr ⟨sn_icmp_ne (off := 26) (by decide +kernel) (by decide), ?_⟩
  refine List.forall_mem_cons.mpr ⟨sn_aload_n (k := 0) (by decide +kernel), ?_⟩
  refine List.forall_mem_cons.mpr ⟨sn_getf (by decide +kernel) rfl tbX2 (by decide) tw_162, ?_⟩
  refine List.forall_mem_cons.mpr ⟨sn_iconst (k := 1) (by decide +kernel) (by decide), ?_⟩
  refine List.forall_mem_cons.mpr ⟨sn_bipush (k := 8) (by decide +kernel) (by decide), ?_⟩
  refine List.forall_mem_cons.mpr ⟨sn_aload_n (k := 0) (by decide +kernel), ?_⟩
  refine List.forall_mem_cons.mpr ⟨sn_getf (by decide +kernel) rfl tbX2 (by decide) tw_162, ?_⟩
  refine List.forall_mem_cons.mpr ⟨sn_iconst (k := 0) (by decide +kernel) (by decide), ?_⟩
  refine List.forall_mem_cons.mpr ⟨⟨i_31, rfl, mk_callV (by decide) (by decide) cv_31 (Or.inl tw_498) rfl (by decide +kernel)⟩, ?_⟩
  refine List.forall_mem_cons.mpr ⟨⟨i_15, rfl, mk_callS (by decide) (by decide) cs_15 (Or.inl tw_511) (by decide +kernel)⟩, ?_⟩
  refine List.forall_mem_cons.mpr ⟨⟨i_33, rfl, mk_callV (by decide) (by decide) cv_33 (Or.inl tw_502) rfl (by decide +kernel)⟩, ?_⟩
  refine List.forall_mem_cons.mpr ⟨sn_iconst (k := 1) (by decide +kernel) (by decide), ?_⟩
  refine List.forall_mem_cons.mpr ⟨⟨rfl, (by decide +kernel : decode prog_4_method_9_code 94 = .ok (.ireturn, 1))⟩, ?_⟩
  refine List.forall_mem_cons.mpr ⟨sn_iconst (k := 0) (by decide +kernel) (by decide), ?_⟩
  refine List.forall_mem_cons.mpr ⟨⟨rfl, (by decide +kernel : decode prog_4_method_9_code 96 = .ok (.ireturn, 1))⟩, ?_⟩
  exact fun _ h => absurd h List.not_mem_nil
set_option maxRecDepth 20000 in
theorem ok_80 : ∀ q ∈ mt_80, mx_ok mx_I0 i_80 q.1 q.2 := by
  refine List.forall_mem_cons.mpr ⟨sn_aload_n (k := 0) (by decide +kernel), ?_⟩
  refine List.forall_mem_cons.mpr ⟨sn_getf (by decide +kernel) rfl tbX2 (by decide) tw_162, ?_⟩
  refine List.forall_mem_cons.mpr ⟨sn_iconst (k := 0) (by decide +kernel) (by decide), ?_⟩
  refine List.forall_mem_cons.mpr ⟨⟨i_30, rfl, mk_callV (by decide) (by decide) cv_30 (Or.inl tw_494) rfl (by decide +kernel)⟩, ?_⟩
  refine List.forall_mem_cons.mpr ⟨sn_if_eq (off := 5) (by decide +kernel) (by decide), ?_⟩
  refine List.forall_mem_cons.mpr ⟨sn_iconst (k := 0) (by decide +kernel) (by decide), ?_⟩
  refine List.forall_mem_cons.mpr ⟨⟨rfl, (by decide +kernel : decode prog_4_method_10_code 12 = .ok (.ireturn, 1))⟩, ?_⟩
  refine List.forall_mem_cons.mpr ⟨sn_aload_n (k := 0) (by decide +kernel), ?_⟩
  refine List.forall_mem_cons.mpr ⟨sn_getf (by decide +kernel) rfl tbX2 (by decide) tw_162, ?_⟩
  refine List.forall_mem_cons.mpr ⟨sn_iconst (k := 0) (by decide +kernel) (by decide), ?_⟩
  refine List.forall_mem_cons.mpr ⟨⟨i_31, rfl, mk_callV (by decide) (by decide) cv_31 (Or.inl tw_498) rfl (by decide +kernel)⟩, ?_⟩
  refine List.forall_mem_cons.mpr ⟨sn_istore_n (k := 2) (by decide +kernel) (by decide), ?_⟩
  refine List.forall_mem_cons.mpr ⟨sn_iload_n (k := 1) (by decide +kernel), ?_⟩
  refine List.forall_mem_cons.mpr ⟨sn_iload_n (k := 2) (by decide +kernel), ?_⟩
  refine List.forall_mem_cons.mpr ⟨⟨i_12, rfl, mk_callS (by decide) (by decide) cs_12 (Or.inl tw_518) (by decide +kernel)⟩, ?_⟩
  refine List.forall_mem_cons.mpr ⟨sn_if_eq (off := 12) (by decide +kernel) (by decide), ?_⟩
  refine List.forall_mem_cons.mpr ⟨sn_aload_n (k := 0) (by decide +kernel), ?_⟩
  refine List.forall_mem_cons.mpr ⟨sn_getf (by decide +kernel) rfl tbX2 (by decide) tw_162, ?_⟩
  refine List.forall_mem_cons.mpr ⟨⟨i_32, rfl, mk_callV (by decide) (by decide) cv_32 (Or.inl tw_506) rfl (by decide +kernel)⟩, ?_⟩
  refine List.forall_mem_cons.mpr ⟨sn_iconst (k := 1) (by decide +kernel) (by decide), ?_⟩
  refine List.forall_mem_cons.mpr ⟨⟨rfl, (by decide +kernel : decode prog_4_method_10_code 38 = .ok (.ireturn, 1))⟩, ?_⟩
  refine List.forall_mem_cons.mpr ⟨sn_aload_n (k := 0) (by decide +kernel), ?_⟩
  refine List.forall_mem_cons.mpr ⟨sn_getf (by decide +kernel) rfl tbX2 (by decide) tw_162, ?_⟩
  refine List.forall_mem_cons.mpr ⟨sn_iconst (k := 1) (by decide +kernel) (by decide), ?_⟩
  refine List.forall_mem_cons.mpr ⟨⟨i_30, rfl, mk_callV (by decide) (by decide) cv_30 (Or.inl tw_494) rfl (by decide +kernel)⟩, ?_⟩
  refine List.forall_mem_cons.mpr ⟨sn_if_ne (off := 14) (by decide +kernel) (by decide), ?_⟩
  refine List.forall_mem_cons.mpr ⟨sn_iload_n (k := 2) (by decide +kernel), ?_⟩
  refine List.forall_mem_cons.mpr ⟨sn_if_ne (off := 12) (by decide +kernel) (by decide), ?_⟩
  refine List.forall_mem_cons.mpr ⟨sn_iload_n (k := 1) (by decide +kernel), ?_⟩
  refine List.forall_mem_cons.mpr ⟨⟨i_9, rfl, mk_callS (by decide) (by decide) cs_9 (Or.inl tw_521) (by decide +kernel)⟩, ?_⟩
  refine List.forall_mem_cons.mpr ⟨sn_if_eq (off := 5) (by decide +kernel) (by decide), ?_⟩
  refine List.forall_mem_cons.mpr ⟨sn_iconst (k := 0) (by decide +kernel) (by decide), ?_⟩
  refine List.forall_mem_cons.mpr ⟨⟨rfl, (by decide +kernel : decode prog_4_method_10_code 62 = .ok (.ireturn, 1))⟩, ?_⟩
  refine List.forall_mem_cons.mpr ⟨sn_aload_n (k := 0) (by decide +kernel), ?_⟩
  refine List.forall_mem_cons.mpr ⟨sn_getf (by decide +kernel) rfl tbX2 (by decide) tw_162, ?_⟩
  refine List.forall_mem_cons.mpr ⟨sn_iconst (k := 2) (by decide +kernel) (by decide), ?_⟩
  refine List.forall_mem_cons.mpr ⟨sn_iconst (k := 0) (by decide +kernel) (by decide), ?_⟩
  refine List.forall_mem_cons.mpr ⟨sn_iload_n (k := 1) (by decide +kernel), ?_⟩
  refine List.forall_mem_cons.mpr ⟨sn_aload_n (k := 0) (by decide +kernel), ?_⟩
  refine List.forall_mem_cons.mpr ⟨sn_getf (by decide +kernel) rfl tbX2 (by decide) tw_162, ?_⟩
  refine List.forall_mem_cons.mpr ⟨sn_iconst (k := 1) (by decide +kernel) (by decide), ?_⟩
  refine List.forall_mem_cons.mpr ⟨⟨i_31, rfl, mk_callV (by decide) (by decide) cv_31 (Or.inl tw_498) rfl (by decide +kernel)⟩, ?_⟩
  refine List.forall_mem_cons.mpr ⟨sn_iload_n (k := 2) (by decide +kernel), ?_⟩
  refine List.forall_mem_cons.mpr ⟨⟨i_10, rfl, mk_callS (by decide) (by decide) cs_10 (Or.inl tw_524) (by decide +kernel)⟩, ?_⟩
  refine List.forall_mem_cons.mpr ⟨⟨i_33, rfl, mk_callV (by decide) (by decide) cv_33 (Or.inl tw_502) rfl (by decide +kernel)⟩, ?_⟩
  refine List.forall_mem_cons.mpr ⟨sn_iconst (k := 1) (by decide +kernel) (by decide), ?_⟩
  refine List.forall_mem_cons.mpr ⟨⟨rfl, (by decide +kernel : decode prog_4_method_10_code 86 = .ok (.ireturn, 1))⟩, ?_⟩
  exact fun _ h => absurd h List.not_mem_nil
