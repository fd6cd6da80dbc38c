/-! ===== 58: the model reads: the whole text ===== -/
theorem tWd_i {s : Mem} {p : Int} {i : Nat} (hi : i < 7) (h : isWd s (tTo s p) (tSt s p) (tEn s p) i) : tWd s p = i + 1 := by
  have n : ∀ j, j < 7 → j ≠ i → ¬ isWd s (tTo s p) (tSt s p) (tEn s p) j := fun j hj hne w => hne (wd_u hj hi w h)
  unfold tWd
  rcases (by omega : i = 0 ∨ i = 1 ∨ i = 2 ∨ i = 3 ∨ i = 4 ∨ i = 5 ∨ i = 6) with e | e | e | e | e | e | e
  · subst e
    rw [cIf_t h]
    rfl
  · subst e
    rw [cIf_f (n 0 (by decide) (by decide)), cIf_t h]
    rfl
  · subst e
    rw [cIf_f (n 0 (by decide) (by decide)), cIf_f (n 1 (by decide) (by decide)), cIf_t h]
    rfl
  · subst e
    rw [cIf_f (n 0 (by decide) (by decide)), cIf_f (n 1 (by decide) (by decide)), cIf_f (n 2 (by decide) (by decide)), cIf_t h]
    rfl
  · subst e
    rw [cIf_f (n 0 (by decide) (by decide)), cIf_f (n 1 (by decide) (by decide)), cIf_f (n 2 (by decide) (by decide)), cIf_f (n 3 (by decide) (by decide)), cIf_t h]
    rfl
  · subst e
    rw [cIf_f (n 0 (by decide) (by decide)), cIf_f (n 1 (by decide) (by decide)), cIf_f (n 2 (by decide) (by decide)), cIf_f (n 3 (by decide) (by decide)), cIf_f (n 4 (by decide) (by decide)), cIf_t h]
    rfl
  · subst e
    rw [cIf_f (n 0 (by decide) (by decide)), cIf_f (n 1 (by decide) (by decide)), cIf_f (n 2 (by decide) (by decide)), cIf_f (n 3 (by decide) (by decide)), cIf_f (n 4 (by decide) (by decide)), cIf_f (n 5 (by decide) (by decide)), cIf_t h]
    rfl
theorem tWd_0 {s : Mem} {p : Int} (h : ∀ i, i < 7 → ¬ isWd s (tTo s p) (tSt s p) (tEn s p) i) : tWd s p = 0 := by
  unfold tWd
  rw [cIf_f (h 0 (by decide)), cIf_f (h 1 (by decide)), cIf_f (h 2 (by decide)), cIf_f (h 3 (by decide)), cIf_f (h 4 (by decide)), cIf_f (h 5 (by decide)), cIf_f (h 6 (by decide))]
theorem tWd_or (s : Mem) (p : Int) : (∃ i, i < 7 ∧ isWd s (tTo s p) (tSt s p) (tEn s p) i) ∨ ∀ i, i < 7 → ¬ isWd s (tTo s p) (tSt s p) (tEn s p) i := by
  by_cases h : ∃ i, i < 7 ∧ isWd s (tTo s p) (tSt s p) (tEn s p) i
  · exact Or.inl h
  · exact Or.inr fun i hi w => h ⟨i, hi, w⟩
theorem ri_fail {f : Int} {v2 v3 : AV} {D : Mem} {P : Int → Mem → Prop} (h : P 0 D) : zW miX6_readsItem P 123 [zr 124, zi f, v2, v3] D := by
  refine sX6_readsItem_123 _ _ _ _ _ ?_
  simp only [tX6_readsItem_123, w_ic, w_lc, w_lds, w_ild, w_lld, w_ald, w_ist, w_lst, w_ast, w_iinc, w_iadd, w_isub, w_imul, w_idiv, w_irem, w_iand, w_ior, w_ixor, w_ishl, w_ishr, w_iushr, w_ineg, w_ladd, w_lsub, w_lmul, w_ldiv, w_lrem, w_lcmp, w_i2l, w_l2i, w_dup, w_pop, w_dup2, w_ieq, w_zeq, w_ine, w_zne, w_ilt, w_zlt, w_ige, w_zge, w_igt, w_zgt, w_ile, w_zle, w_cut, w_tsw, zsw, w_iret, w_zret, w_lret, w_vret, w_nret, w_getI, w_getJ, w_getR, w_putI, w_putZ, w_putJ, w_iald, w_zald, w_iast, w_zast, w_alen, w_sI, w_sJ, w_sV, w_vI, w_vJ, w_vV, w_tI, w_mmax, w_mmin, w_mabs, w_lmax, w_acopy, gL, sL, kl_i, kl_l, kl_r, kl_s, kl_m, qI_i, qJ_l, qA_r, qA_s, pI_i, pJ_l, pA_r, pS_s, pM_m, pV_v, c1_i, c1_r, c1_s, c1_m, cS_0, cS_i, cS_l, cS_r, cS_s, cS_m, pN, z_rc_r, zE1, zE2, zE3, true_and, and_true, Nat.zero_add, Nat.reduceAdd, Nat.reduceLeDiff, true_or, or_true, Int.reduceLE, Int.reduceLT, zcmp_l, zcmp_g, zcmp_e, zcmp_le, mo, mf0, mz0, mf1, mz1, mf2, mz2, mf6, mz6, mf10, mz10, mf11, mz11, mf12, mz12, mf13, mz13, mf14, mz14, mf16, mz16, mf17, mz17, mf18, mz18, mf19, mz19, mi3, mi7, mi8, mi9, mi15, mi4, mi5, mi20, ma125, mn125, ma126, mn126, ma127, mn127, ma128, mn128, ma129, mn129, ma130, mn130, ma131, mn131, ma132, mn132, ma133, mn133, ma134, mn134, ma135, mn135, ma136, mn136, ma137, mn137]
  refine sX6_readsItem_124 _ _ _ _ _ ?_
  simp only [tX6_readsItem_124, w_ic, w_lc, w_lds, w_ild, w_lld, w_ald, w_ist, w_lst, w_ast, w_iinc, w_iadd, w_isub, w_imul, w_idiv, w_irem, w_iand, w_ior, w_ixor, w_ishl, w_ishr, w_iushr, w_ineg, w_ladd, w_lsub, w_lmul, w_ldiv, w_lrem, w_lcmp, w_i2l, w_l2i, w_dup, w_pop, w_dup2, w_ieq, w_zeq, w_ine, w_zne, w_ilt, w_zlt, w_ige, w_zge, w_igt, w_zgt, w_ile, w_zle, w_cut, w_tsw, zsw, w_iret, w_zret, w_lret, w_vret, w_nret, w_getI, w_getJ, w_getR, w_putI, w_putZ, w_putJ, w_iald, w_zald, w_iast, w_zast, w_alen, w_sI, w_sJ, w_sV, w_vI, w_vJ, w_vV, w_tI, w_mmax, w_mmin, w_mabs, w_lmax, w_acopy, gL, sL, kl_i, kl_l, kl_r, kl_s, kl_m, qI_i, qJ_l, qA_r, qA_s, pI_i, pJ_l, pA_r, pS_s, pM_m, pV_v, c1_i, c1_r, c1_s, c1_m, cS_0, cS_i, cS_l, cS_r, cS_s, cS_m, pN, z_rc_r, zE1, zE2, zE3, true_and, and_true, Nat.zero_add, Nat.reduceAdd, Nat.reduceLeDiff, true_or, or_true, Int.reduceLE, Int.reduceLT, zcmp_l, zcmp_g, zcmp_e, zcmp_le, mo, mf0, mz0, mf1, mz1, mf2, mz2, mf6, mz6, mf10, mz10, mf11, mz11, mf12, mz12, mf13, mz13, mf14, mz14, mf16, mz16, mf17, mz17, mf18, mz18, mf19, mz19, mi3, mi7, mi8, mi9, mi15, mi4, mi5, mi20, ma125, mn125, ma126, mn126, ma127, mn127, ma128, mn128, ma129, mn129, ma130, mn130, ma131, mn131, ma132, mn132, ma133, mn133, ma134, mn134, ma135, mn135, ma136, mn136, ma137, mn137]
  refine ⟨fun _ => ?_, fun w => absurd trivial w⟩
  refine sX6_readsItem_140 _ _ _ _ _ ?_
  simp only [tX6_readsItem_140, w_ic, w_lc, w_lds, w_ild, w_lld, w_ald, w_ist, w_lst, w_ast, w_iinc, w_iadd, w_isub, w_imul, w_idiv, w_irem, w_iand, w_ior, w_ixor, w_ishl, w_ishr, w_iushr, w_ineg, w_ladd, w_lsub, w_lmul, w_ldiv, w_lrem, w_lcmp, w_i2l, w_l2i, w_dup, w_pop, w_dup2, w_ieq, w_zeq, w_ine, w_zne, w_ilt, w_zlt, w_ige, w_zge, w_igt, w_zgt, w_ile, w_zle, w_cut, w_tsw, zsw, w_iret, w_zret, w_lret, w_vret, w_nret, w_getI, w_getJ, w_getR, w_putI, w_putZ, w_putJ, w_iald, w_zald, w_iast, w_zast, w_alen, w_sI, w_sJ, w_sV, w_vI, w_vJ, w_vV, w_tI, w_mmax, w_mmin, w_mabs, w_lmax, w_acopy, gL, sL, kl_i, kl_l, kl_r, kl_s, kl_m, qI_i, qJ_l, qA_r, qA_s, pI_i, pJ_l, pA_r, pS_s, pM_m, pV_v, c1_i, c1_r, c1_s, c1_m, cS_0, cS_i, cS_l, cS_r, cS_s, cS_m, pN, z_rc_r, zE1, zE2, zE3, true_and, and_true, Nat.zero_add, Nat.reduceAdd, Nat.reduceLeDiff, true_or, or_true, Int.reduceLE, Int.reduceLT, zcmp_l, zcmp_g, zcmp_e, zcmp_le, mo, mf0, mz0, mf1, mz1, mf2, mz2, mf6, mz6, mf10, mz10, mf11, mz11, mf12, mz12, mf13, mz13, mf14, mz14, mf16, mz16, mf17, mz17, mf18, mz18, mf19, mz19, mi3, mi7, mi8, mi9, mi15, mi4, mi5, mi20, ma125, mn125, ma126, mn126, ma127, mn127, ma128, mn128, ma129, mn129, ma130, mn130, ma131, mn131, ma132, mn132, ma133, mn133, ma134, mn134, ma135, mn135, ma136, mn136, ma137, mn137]
  refine sX6_readsItem_141 _ _ _ _ _ ?_
  simp only [tX6_readsItem_141, w_ic, w_lc, w_lds, w_ild, w_lld, w_ald, w_ist, w_lst, w_ast, w_iinc, w_iadd, w_isub, w_imul, w_idiv, w_irem, w_iand, w_ior, w_ixor, w_ishl, w_ishr, w_iushr, w_ineg, w_ladd, w_lsub, w_lmul, w_ldiv, w_lrem, w_lcmp, w_i2l, w_l2i, w_dup, w_pop, w_dup2, w_ieq, w_zeq, w_ine, w_zne, w_ilt, w_zlt, w_ige, w_zge, w_igt, w_zgt, w_ile, w_zle, w_cut, w_tsw, zsw, w_iret, w_zret, w_lret, w_vret, w_nret, w_getI, w_getJ, w_getR, w_putI, w_putZ, w_putJ, w_iald, w_zald, w_iast, w_zast, w_alen, w_sI, w_sJ, w_sV, w_vI, w_vJ, w_vV, w_tI, w_mmax, w_mmin, w_mabs, w_lmax, w_acopy, gL, sL, kl_i, kl_l, kl_r, kl_s, kl_m, qI_i, qJ_l, qA_r, qA_s, pI_i, pJ_l, pA_r, pS_s, pM_m, pV_v, c1_i, c1_r, c1_s, c1_m, cS_0, cS_i, cS_l, cS_r, cS_s, cS_m, pN, z_rc_r, zE1, zE2, zE3, true_and, and_true, Nat.zero_add, Nat.reduceAdd, Nat.reduceLeDiff, true_or, or_true, Int.reduceLE, Int.reduceLT, zcmp_l, zcmp_g, zcmp_e, zcmp_le, mo, mf0, mz0, mf1, mz1, mf2, mz2, mf6, mz6, mf10, mz10, mf11, mz11, mf12, mz12, mf13, mz13, mf14, mz14, mf16, mz16, mf17, mz17, mf18, mz18, mf19, mz19, mi3, mi7, mi8, mi9, mi15, mi4, mi5, mi20, ma125, mn125, ma126, mn126, ma127, mn127, ma128, mn128, ma129, mn129, ma130, mn130, ma131, mn131, ma132, mn132, ma133, mn133, ma134, mn134, ma135, mn135, ma136, mn136, ma137, mn137]
  exact h
theorem ri_end {f : Int} {v2 v3 : AV} {D : Mem} {P : Int → Mem → Prop} (h : zC miX6_takesEnd [zr 124] D (fun x D'' => (x = 0 → P 0 D'') ∧ (¬ x = 0 → P 1 D''))) : zW miX6_readsItem P 119 [zr 124, zi f, v2, v3] D := by
  refine sX6_readsItem_119 _ _ _ _ _ ?_
  simp only [tX6_readsItem_119, w_ic, w_lc, w_lds, w_ild, w_lld, w_ald, w_ist, w_lst, w_ast, w_iinc, w_iadd, w_isub, w_imul, w_idiv, w_irem, w_iand, w_ior, w_ixor, w_ishl, w_ishr, w_iushr, w_ineg, w_ladd, w_lsub, w_lmul, w_ldiv, w_lrem, w_lcmp, w_i2l, w_l2i, w_dup, w_pop, w_dup2, w_ieq, w_zeq, w_ine, w_zne, w_ilt, w_zlt, w_ige, w_zge, w_igt, w_zgt, w_ile, w_zle, w_cut, w_tsw, zsw, w_iret, w_zret, w_lret, w_vret, w_nret, w_getI, w_getJ, w_getR, w_putI, w_putZ, w_putJ, w_iald, w_zald, w_iast, w_zast, w_alen, w_sI, w_sJ, w_sV, w_vI, w_vJ, w_vV, w_tI, w_mmax, w_mmin, w_mabs, w_lmax, w_acopy, gL, sL, kl_i, kl_l, kl_r, kl_s, kl_m, qI_i, qJ_l, qA_r, qA_s, pI_i, pJ_l, pA_r, pS_s, pM_m, pV_v, c1_i, c1_r, c1_s, c1_m, cS_0, cS_i, cS_l, cS_r, cS_s, cS_m, pN, z_rc_r, zE1, zE2, zE3, true_and, and_true, Nat.zero_add, Nat.reduceAdd, Nat.reduceLeDiff, true_or, or_true, Int.reduceLE, Int.reduceLT, zcmp_l, zcmp_g, zcmp_e, zcmp_le, mo, mf0, mz0, mf1, mz1, mf2, mz2, mf6, mz6, mf10, mz10, mf11, mz11, mf12, mz12, mf13, mz13, mf14, mz14, mf16, mz16, mf17, mz17, mf18, mz18, mf19, mz19, mi3, mi7, mi8, mi9, mi15, mi4, mi5, mi20, ma125, mn125, ma126, mn126, ma127, mn127, ma128, mn128, ma129, mn129, ma130, mn130, ma131, mn131, ma132, mn132, ma133, mn133, ma134, mn134, ma135, mn135, ma136, mn136, ma137, mn137]
  refine sX6_readsItem_124 _ _ _ _ _ ?_
  simp only [tX6_readsItem_124, w_ic, w_lc, w_lds, w_ild, w_lld, w_ald, w_ist, w_lst, w_ast, w_iinc, w_iadd, w_isub, w_imul, w_idiv, w_irem, w_iand, w_ior, w_ixor, w_ishl, w_ishr, w_iushr, w_ineg, w_ladd, w_lsub, w_lmul, w_ldiv, w_lrem, w_lcmp, w_i2l, w_l2i, w_dup, w_pop, w_dup2, w_ieq, w_zeq, w_ine, w_zne, w_ilt, w_zlt, w_ige, w_zge, w_igt, w_zgt, w_ile, w_zle, w_cut, w_tsw, zsw, w_iret, w_zret, w_lret, w_vret, w_nret, w_getI, w_getJ, w_getR, w_putI, w_putZ, w_putJ, w_iald, w_zald, w_iast, w_zast, w_alen, w_sI, w_sJ, w_sV, w_vI, w_vJ, w_vV, w_tI, w_mmax, w_mmin, w_mabs, w_lmax, w_acopy, gL, sL, kl_i, kl_l, kl_r, kl_s, kl_m, qI_i, qJ_l, qA_r, qA_s, pI_i, pJ_l, pA_r, pS_s, pM_m, pV_v, c1_i, c1_r, c1_s, c1_m, cS_0, cS_i, cS_l, cS_r, cS_s, cS_m, pN, z_rc_r, zE1, zE2, zE3, true_and, and_true, Nat.zero_add, Nat.reduceAdd, Nat.reduceLeDiff, true_or, or_true, Int.reduceLE, Int.reduceLT, zcmp_l, zcmp_g, zcmp_e, zcmp_le, mo, mf0, mz0, mf1, mz1, mf2, mz2, mf6, mz6, mf10, mz10, mf11, mz11, mf12, mz12, mf13, mz13, mf14, mz14, mf16, mz16, mf17, mz17, mf18, mz18, mf19, mz19, mi3, mi7, mi8, mi9, mi15, mi4, mi5, mi20, ma125, mn125, ma126, mn126, ma127, mn127, ma128, mn128, ma129, mn129, ma130, mn130, ma131, mn131, ma132, mn132, ma133, mn133, ma134, mn134, ma135, mn135, ma136, mn136, ma137, mn137]
  refine ⟨fun w => absurd w (by decide), fun _ => h.mono fun x D' q => ⟨fun e => ?_, fun e => ?_⟩⟩
  · have := q.1 e
    refine sX6_readsItem_140 _ _ _ _ _ ?_
    simp only [tX6_readsItem_140, w_ic, w_lc, w_lds, w_ild, w_lld, w_ald, w_ist, w_lst, w_ast, w_iinc, w_iadd, w_isub, w_imul, w_idiv, w_irem, w_iand, w_ior, w_ixor, w_ishl, w_ishr, w_iushr, w_ineg, w_ladd, w_lsub, w_lmul, w_ldiv, w_lrem, w_lcmp, w_i2l, w_l2i, w_dup, w_pop, w_dup2, w_ieq, w_zeq, w_ine, w_zne, w_ilt, w_zlt, w_ige, w_zge, w_igt, w_zgt, w_ile, w_zle, w_cut, w_tsw, zsw, w_iret, w_zret, w_lret, w_vret, w_nret, w_getI, w_getJ, w_getR, w_putI, w_putZ, w_putJ, w_iald, w_zald, w_iast, w_zast, w_alen, w_sI, w_sJ, w_sV, w_vI, w_vJ, w_vV, w_tI, w_mmax, w_mmin, w_mabs, w_lmax, w_acopy, gL, sL, kl_i, kl_l, kl_r, kl_s, kl_m, qI_i, qJ_l, qA_r, qA_s, pI_i, pJ_l, pA_r, pS_s, pM_m, pV_v, c1_i, c1_r, c1_s, c1_m, cS_0, cS_i, cS_l, cS_r, cS_s, cS_m, pN, z_rc_r, zE1, zE2, zE3, true_and, and_true, Nat.zero_add, Nat.reduceAdd, Nat.reduceLeDiff, true_or, or_true, Int.reduceLE, Int.reduceLT, zcmp_l, zcmp_g, zcmp_e, zcmp_le, mo, mf0, mz0, mf1, mz1, mf2, mz2, mf6, mz6, mf10, mz10, mf11, mz11, mf12, mz12, mf13, mz13, mf14, mz14, mf16, mz16, mf17, mz17, mf18, mz18, mf19, mz19, mi3, mi7, mi8, mi9, mi15, mi4, mi5, mi20, ma125, mn125, ma126, mn126, ma127, mn127, ma128, mn128, ma129, mn129, ma130, mn130, ma131, mn131, ma132, mn132, ma133, mn133, ma134, mn134, ma135, mn135, ma136, mn136, ma137, mn137]
    refine sX6_readsItem_141 _ _ _ _ _ ?_
    simp only [tX6_readsItem_141, w_ic, w_lc, w_lds, w_ild, w_lld, w_ald, w_ist, w_lst, w_ast, w_iinc, w_iadd, w_isub, w_imul, w_idiv, w_irem, w_iand, w_ior, w_ixor, w_ishl, w_ishr, w_iushr, w_ineg, w_ladd, w_lsub, w_lmul, w_ldiv, w_lrem, w_lcmp, w_i2l, w_l2i, w_dup, w_pop, w_dup2, w_ieq, w_zeq, w_ine, w_zne, w_ilt, w_zlt, w_ige, w_zge, w_igt, w_zgt, w_ile, w_zle, w_cut, w_tsw, zsw, w_iret, w_zret, w_lret, w_vret, w_nret, w_getI, w_getJ, w_getR, w_putI, w_putZ, w_putJ, w_iald, w_zald, w_iast, w_zast, w_alen, w_sI, w_sJ, w_sV, w_vI, w_vJ, w_vV, w_tI, w_mmax, w_mmin, w_mabs, w_lmax, w_acopy, gL, sL, kl_i, kl_l, kl_r, kl_s, kl_m, qI_i, qJ_l, qA_r, qA_s, pI_i, pJ_l, pA_r, pS_s, pM_m, pV_v, c1_i, c1_r, c1_s, c1_m, cS_0, cS_i, cS_l, cS_r, cS_s, cS_m, pN, z_rc_r, zE1, zE2, zE3, true_and, and_true, Nat.zero_add, Nat.reduceAdd, Nat.reduceLeDiff, true_or, or_true, Int.reduceLE, Int.reduceLT, zcmp_l, zcmp_g, zcmp_e, zcmp_le, mo, mf0, mz0, mf1, mz1, mf2, mz2, mf6, mz6, mf10, mz10, mf11, mz11, mf12, mz12, mf13, mz13, mf14, mz14, mf16, mz16, mf17, mz17, mf18, mz18, mf19, mz19, mi3, mi7, mi8, mi9, mi15, mi4, mi5, mi20, ma125, mn125, ma126, mn126, ma127, mn127, ma128, mn128, ma129, mn129, ma130, mn130, ma131, mn131, ma132, mn132, ma133, mn133, ma134, mn134, ma135, mn135, ma136, mn136, ma137, mn137]
    exact this
  · have := q.2 e
    refine sX6_readsItem_141 _ _ _ _ _ ?_
    simp only [tX6_readsItem_141, w_ic, w_lc, w_lds, w_ild, w_lld, w_ald, w_ist, w_lst, w_ast, w_iinc, w_iadd, w_isub, w_imul, w_idiv, w_irem, w_iand, w_ior, w_ixor, w_ishl, w_ishr, w_iushr, w_ineg, w_ladd, w_lsub, w_lmul, w_ldiv, w_lrem, w_lcmp, w_i2l, w_l2i, w_dup, w_pop, w_dup2, w_ieq, w_zeq, w_ine, w_zne, w_ilt, w_zlt, w_ige, w_zge, w_igt, w_zgt, w_ile, w_zle, w_cut, w_tsw, zsw, w_iret, w_zret, w_lret, w_vret, w_nret, w_getI, w_getJ, w_getR, w_putI, w_putZ, w_putJ, w_iald, w_zald, w_iast, w_zast, w_alen, w_sI, w_sJ, w_sV, w_vI, w_vJ, w_vV, w_tI, w_mmax, w_mmin, w_mabs, w_lmax, w_acopy, gL, sL, kl_i, kl_l, kl_r, kl_s, kl_m, qI_i, qJ_l, qA_r, qA_s, pI_i, pJ_l, pA_r, pS_s, pM_m, pV_v, c1_i, c1_r, c1_s, c1_m, cS_0, cS_i, cS_l, cS_r, cS_s, cS_m, pN, z_rc_r, zE1, zE2, zE3, true_and, and_true, Nat.zero_add, Nat.reduceAdd, Nat.reduceLeDiff, true_or, or_true, Int.reduceLE, Int.reduceLT, zcmp_l, zcmp_g, zcmp_e, zcmp_le, mo, mf0, mz0, mf1, mz1, mf2, mz2, mf6, mz6, mf10, mz10, mf11, mz11, mf12, mz12, mf13, mz13, mf14, mz14, mf16, mz16, mf17, mz17, mf18, mz18, mf19, mz19, mi3, mi7, mi8, mi9, mi15, mi4, mi5, mi20, ma125, mn125, ma126, mn126, ma127, mn127, ma128, mn128, ma129, mn129, ma130, mn130, ma131, mn131, ma132, mn132, ma133, mn133, ma134, mn134, ma135, mn135, ma136, mn136, ma137, mn137]
    exact this
theorem tWl_e {s : Mem} {p : Int} {i : Nat} (h : isWd s (tTo s p) (tSt s p) (tEn s p) i) : tSt s p + tWl s p = tEn s p := by
  unfold tWl
  rw [if_pos h.1]
  omega
theorem m_readsFirst {D s : Mem} {p : Int} {P : Int → Mem → Prop} (hT : yTx D s) (h7 : D 124 7 = p) (p0 : 0 ≤ p) (p1 : p ≤ s 4 0) (h1 : isWd s (tTo s p) (tSt s p) (tEn s p) 0 → tTo s (tEn s p) = 3 → ∀ D', yK D D' → D' 124 7 = tEn s (tEn s p) → P 1 D') (h2 : isWd s (tTo s p) (tSt s p) (tEn s p) 0 → tTo s (tEn s p) ≠ 3 → ∀ D', yK D D' → D' 124 8 = tSt s (tEn s p) → P 0 D') (h0 : ¬ isWd s (tTo s p) (tSt s p) (tEn s p) 0 → ∀ D', yK D D' → D' 124 8 = tSt s p → P 0 D') : zC miX6_readsItem [zr 124, zi 1] D P := by
  have hl := hT.1.1
  have b := tSt_b hl p0 p1
  have eb := tEn_b hl p0 p1
  refine e_X6_readsItem ?_
  simp only [tX6_readsItem_0, w_ic, w_lc, w_lds, w_ild, w_lld, w_ald, w_ist, w_lst, w_ast, w_iinc, w_iadd, w_isub, w_imul, w_idiv, w_irem, w_iand, w_ior, w_ixor, w_ishl, w_ishr, w_iushr, w_ineg, w_ladd, w_lsub, w_lmul, w_ldiv, w_lrem, w_lcmp, w_i2l, w_l2i, w_dup, w_pop, w_dup2, w_ieq, w_zeq, w_ine, w_zne, w_ilt, w_zlt, w_ige, w_zge, w_igt, w_zgt, w_ile, w_zle, w_cut, w_tsw, zsw, w_iret, w_zret, w_lret, w_vret, w_nret, w_getI, w_getJ, w_getR, w_putI, w_putZ, w_putJ, w_iald, w_zald, w_iast, w_zast, w_alen, w_sI, w_sJ, w_sV, w_vI, w_vJ, w_vV, w_tI, w_mmax, w_mmin, w_mabs, w_lmax, w_acopy, gL, sL, kl_i, kl_l, kl_r, kl_s, kl_m, qI_i, qJ_l, qA_r, qA_s, pI_i, pJ_l, pA_r, pS_s, pM_m, pV_v, c1_i, c1_r, c1_s, c1_m, cS_0, cS_i, cS_l, cS_r, cS_s, cS_m, pN, z_rc_r, zE1, zE2, zE3, true_and, and_true, Nat.zero_add, Nat.reduceAdd, Nat.reduceLeDiff, true_or, or_true, Int.reduceLE, Int.reduceLT, zcmp_l, zcmp_g, zcmp_e, zcmp_le, mo, mf0, mz0, mf1, mz1, mf2, mz2, mf6, mz6, mf10, mz10, mf11, mz11, mf12, mz12, mf13, mz13, mf14, mz14, mf16, mz16, mf17, mz17, mf18, mz18, mf19, mz19, mi3, mi7, mi8, mi9, mi15, mi4, mi5, mi20, ma125, mn125, ma126, mn126, ma127, mn127, ma128, mn128, ma129, mn129, ma130, mn130, ma131, mn131, ma132, mn132, ma133, mn133, ma134, mn134, ma135, mn135, ma136, mn136, ma137, mn137]
  refine m_takesWord hT h7 p0 p1 fun D1 f1 e7 e8 => ?_
  refine m_wordOf (hT.k f1) p0 p1 e7 e8 ?_
  by_cases hw : isWd s (tTo s p) (tSt s p) (tEn s p) 0
  · have eW := tWd_i (by decide) hw
    rw [tWl_e hw] at e7
    refine ⟨fun w => absurd eW w, fun _ => ?_⟩
    refine sX6_readsItem_20 _ _ _ _ _ ?_
    simp only [tX6_readsItem_20, w_ic, w_lc, w_lds, w_ild, w_lld, w_ald, w_ist, w_lst, w_ast, w_iinc, w_iadd, w_isub, w_imul, w_idiv, w_irem, w_iand, w_ior, w_ixor, w_ishl, w_ishr, w_iushr, w_ineg, w_ladd, w_lsub, w_lmul, w_ldiv, w_lrem, w_lcmp, w_i2l, w_l2i, w_dup, w_pop, w_dup2, w_ieq, w_zeq, w_ine, w_zne, w_ilt, w_zlt, w_ige, w_zge, w_igt, w_zgt, w_ile, w_zle, w_cut, w_tsw, zsw, w_iret, w_zret, w_lret, w_vret, w_nret, w_getI, w_getJ, w_getR, w_putI, w_putZ, w_putJ, w_iald, w_zald, w_iast, w_zast, w_alen, w_sI, w_sJ, w_sV, w_vI, w_vJ, w_vV, w_tI, w_mmax, w_mmin, w_mabs, w_lmax, w_acopy, gL, sL, kl_i, kl_l, kl_r, kl_s, kl_m, qI_i, qJ_l, qA_r, qA_s, pI_i, pJ_l, pA_r, pS_s, pM_m, pV_v, c1_i, c1_r, c1_s, c1_m, cS_0, cS_i, cS_l, cS_r, cS_s, cS_m, pN, z_rc_r, zE1, zE2, zE3, true_and, and_true, Nat.zero_add, Nat.reduceAdd, Nat.reduceLeDiff, true_or, or_true, Int.reduceLE, Int.reduceLT, zcmp_l, zcmp_g, zcmp_e, zcmp_le, mo, mf0, mz0, mf1, mz1, mf2, mz2, mf6, mz6, mf10, mz10, mf11, mz11, mf12, mz12, mf13, mz13, mf14, mz14, mf16, mz16, mf17, mz17, mf18, mz18, mf19, mz19, mi3, mi7, mi8, mi9, mi15, mi4, mi5, mi20, ma125, mn125, ma126, mn126, ma127, mn127, ma128, mn128, ma129, mn129, ma130, mn130, ma131, mn131, ma132, mn132, ma133, mn133, ma134, mn134, ma135, mn135, ma136, mn136, ma137, mn137]
    refine ⟨fun _ => ⟨fun _ => ri_end ?_, fun w => absurd eW w⟩, fun w => absurd trivial w⟩
    exact m_takesEnd (hT.k f1) e7 (by omega) eb.2.1 (fun q D2 f2 g7 g8 => ⟨fun w => absurd w (by decide), fun _ => h1 hw q D2 (f1.trans f2) g7⟩) (fun q D2 f2 g8 => ⟨fun _ => h2 hw q D2 (f1.trans f2) g8, fun w => absurd rfl w⟩)
  · have eW : tWd s p ≠ 1 := by
      rcases tWd_or s p with ⟨i, hi, hi2⟩ | hn
      · rw [tWd_i hi hi2]
        intro w
        have : i = 0 := by omega
        rw [this] at hi2
        exact hw hi2
      · rw [tWd_0 hn]; decide
    refine ⟨fun _ => ?_, fun w => absurd eW w⟩
    refine sX6_readsItem_20 _ _ _ _ _ ?_
    simp only [tX6_readsItem_20, w_ic, w_lc, w_lds, w_ild, w_lld, w_ald, w_ist, w_lst, w_ast, w_iinc, w_iadd, w_isub, w_imul, w_idiv, w_irem, w_iand, w_ior, w_ixor, w_ishl, w_ishr, w_iushr, w_ineg, w_ladd, w_lsub, w_lmul, w_ldiv, w_lrem, w_lcmp, w_i2l, w_l2i, w_dup, w_pop, w_dup2, w_ieq, w_zeq, w_ine, w_zne, w_ilt, w_zlt, w_ige, w_zge, w_igt, w_zgt, w_ile, w_zle, w_cut, w_tsw, zsw, w_iret, w_zret, w_lret, w_vret, w_nret, w_getI, w_getJ, w_getR, w_putI, w_putZ, w_putJ, w_iald, w_zald, w_iast, w_zast, w_alen, w_sI, w_sJ, w_sV, w_vI, w_vJ, w_vV, w_tI, w_mmax, w_mmin, w_mabs, w_lmax, w_acopy, gL, sL, kl_i, kl_l, kl_r, kl_s, kl_m, qI_i, qJ_l, qA_r, qA_s, pI_i, pJ_l, pA_r, pS_s, pM_m, pV_v, c1_i, c1_r, c1_s, c1_m, cS_0, cS_i, cS_l, cS_r, cS_s, cS_m, pN, z_rc_r, zE1, zE2, zE3, true_and, and_true, Nat.zero_add, Nat.reduceAdd, Nat.reduceLeDiff, true_or, or_true, Int.reduceLE, Int.reduceLT, zcmp_l, zcmp_g, zcmp_e, zcmp_le, mo, mf0, mz0, mf1, mz1, mf2, mz2, mf6, mz6, mf10, mz10, mf11, mz11, mf12, mz12, mf13, mz13, mf14, mz14, mf16, mz16, mf17, mz17, mf18, mz18, mf19, mz19, mi3, mi7, mi8, mi9, mi15, mi4, mi5, mi20, ma125, mn125, ma126, mn126, ma127, mn127, ma128, mn128, ma129, mn129, ma130, mn130, ma131, mn131, ma132, mn132, ma133, mn133, ma134, mn134, ma135, mn135, ma136, mn136, ma137, mn137]
    exact ⟨fun w => absurd w (by decide), fun _ => h0 hw D1 f1 e8⟩
theorem rItm_i {s : Mem} {a : Int → Int} {p : Int} {i : Nat} (hi : i < 7) (h : isWd s (tTo s p) (tSt s p) (tEn s p) i) : rItm s a (tTo s p) (tSt s p) (tEn s p) = (if i = 1 then rLad s a (tEn s p) (tSt s p) else if i = 2 then rGoe s a (tEn s p) (tSt s p) else if i = 3 then rWin s a (tEn s p) (tSt s p) else if i = 4 then rTur s a (tEn s p) else if i = 5 then rDra s a (tEn s p) else if i = 6 then rMin s a (tEn s p) else (0, a, tSt s p)) := by
  have n : ∀ j, j < 7 → j ≠ i → ¬ isWd s (tTo s p) (tSt s p) (tEn s p) j := fun j hj hne w => hne (wd_u hj hi w h)
  unfold rItm
  rcases (by omega : i = 0 ∨ i = 1 ∨ i = 2 ∨ i = 3 ∨ i = 4 ∨ i = 5 ∨ i = 6) with e | e | e | e | e | e | e
  · subst e
    rw [cIf_f (n 1 (by decide) (by decide)), cIf_f (n 2 (by decide) (by decide)), cIf_f (n 3 (by decide) (by decide)), cIf_f (n 4 (by decide) (by decide)), cIf_f (n 5 (by decide) (by decide)), cIf_f (n 6 (by decide) (by decide))]
    rfl
  · subst e
    rw [cIf_t h]
    rfl
  · subst e
    rw [cIf_f (n 1 (by decide) (by decide)), cIf_t h]
    rfl
  · subst e
    rw [cIf_f (n 1 (by decide) (by decide)), cIf_f (n 2 (by decide) (by decide)), cIf_t h]
    rfl
  · subst e
    rw [cIf_f (n 1 (by decide) (by decide)), cIf_f (n 2 (by decide) (by decide)), cIf_f (n 3 (by decide) (by decide)), cIf_t h]
    rfl
  · subst e
    rw [cIf_f (n 1 (by decide) (by decide)), cIf_f (n 2 (by decide) (by decide)), cIf_f (n 3 (by decide) (by decide)), cIf_f (n 4 (by decide) (by decide)), cIf_t h]
    rfl
  · subst e
    rw [cIf_f (n 1 (by decide) (by decide)), cIf_f (n 2 (by decide) (by decide)), cIf_f (n 3 (by decide) (by decide)), cIf_f (n 4 (by decide) (by decide)), cIf_f (n 5 (by decide) (by decide)), cIf_t h]
    rfl
theorem rItm_0 {s : Mem} {a : Int → Int} {p : Int} (h : ∀ i, i < 7 → ¬ isWd s (tTo s p) (tSt s p) (tEn s p) i) : rItm s a (tTo s p) (tSt s p) (tEn s p) = (0, a, tSt s p) := by
  unfold rItm
  rw [cIf_f (h 1 (by decide)), cIf_f (h 2 (by decide)), cIf_f (h 3 (by decide)), cIf_f (h 4 (by decide)), cIf_f (h 5 (by decide)), cIf_f (h 6 (by decide))]
theorem m_readsNext {M : Int} {D s : Mem} {a : Int → Int} {p : Int} {P : Int → Mem → Prop} (hM : M + 99 ≤ 9999) (hT : yTx D s) (hR : yR D 819 a) (hw : WA M a) (ha : a 120 = 0) (h7 : D 124 7 = p) (p0 : 0 ≤ p) (p1 : p ≤ s 4 0)
    (h1 : (rItm s a (tTo s p) (tSt s p) (tEn s p)).1 = 1 → tTo s (rItm s a (tTo s p) (tSt s p) (tEn s p)).2.2 = 3 → ∀ D', yF D D' → D' 124 7 = tEn s (rItm s a (tTo s p) (tSt s p) (tEn s p)).2.2 → yR D' 819 (rItm s a (tTo s p) (tSt s p) (tEn s p)).2.1 → WA (M + 99) (rItm s a (tTo s p) (tSt s p) (tEn s p)).2.1 → (rItm s a (tTo s p) (tSt s p) (tEn s p)).2.1 120 = 0 → (tEn s p < (rItm s a (tTo s p) (tSt s p) (tEn s p)).2.2 ∧ (rItm s a (tTo s p) (tSt s p) (tEn s p)).2.2 ≤ s 4 0) → P 1 D')
    (h2 : (rItm s a (tTo s p) (tSt s p) (tEn s p)).1 = 1 → tTo s (rItm s a (tTo s p) (tSt s p) (tEn s p)).2.2 ≠ 3 → ∀ D', yF D D' → D' 124 8 = tSt s (rItm s a (tTo s p) (tSt s p) (tEn s p)).2.2 → (0 ≤ (rItm s a (tTo s p) (tSt s p) (tEn s p)).2.2 ∧ (rItm s a (tTo s p) (tSt s p) (tEn s p)).2.2 ≤ s 4 0) → P 0 D')
    (h0 : (rItm s a (tTo s p) (tSt s p) (tEn s p)).1 = 0 → ∀ D', yF D D' → D' 124 8 = (rItm s a (tTo s p) (tSt s p) (tEn s p)).2.2 → (0 ≤ (rItm s a (tTo s p) (tSt s p) (tEn s p)).2.2 ∧ (rItm s a (tTo s p) (tSt s p) (tEn s p)).2.2 ≤ s 4 0) → P 0 D') : zC miX6_readsItem [zr 124, zi 0] D P := by
  have hl := hT.1.1
  have b := tSt_b hl p0 p1
  have eb := tEn_b hl p0 p1
  refine e_X6_readsItem ?_
  simp only [tX6_readsItem_0, w_ic, w_lc, w_lds, w_ild, w_lld, w_ald, w_ist, w_lst, w_ast, w_iinc, w_iadd, w_isub, w_imul, w_idiv, w_irem, w_iand, w_ior, w_ixor, w_ishl, w_ishr, w_iushr, w_ineg, w_ladd, w_lsub, w_lmul, w_ldiv, w_lrem, w_lcmp, w_i2l, w_l2i, w_dup, w_pop, w_dup2, w_ieq, w_zeq, w_ine, w_zne, w_ilt, w_zlt, w_ige, w_zge, w_igt, w_zgt, w_ile, w_zle, w_cut, w_tsw, zsw, w_iret, w_zret, w_lret, w_vret, w_nret, w_getI, w_getJ, w_getR, w_putI, w_putZ, w_putJ, w_iald, w_zald, w_iast, w_zast, w_alen, w_sI, w_sJ, w_sV, w_vI, w_vJ, w_vV, w_tI, w_mmax, w_mmin, w_mabs, w_lmax, w_acopy, gL, sL, kl_i, kl_l, kl_r, kl_s, kl_m, qI_i, qJ_l, qA_r, qA_s, pI_i, pJ_l, pA_r, pS_s, pM_m, pV_v, c1_i, c1_r, c1_s, c1_m, cS_0, cS_i, cS_l, cS_r, cS_s, cS_m, pN, z_rc_r, zE1, zE2, zE3, true_and, and_true, Nat.zero_add, Nat.reduceAdd, Nat.reduceLeDiff, true_or, or_true, Int.reduceLE, Int.reduceLT, zcmp_l, zcmp_g, zcmp_e, zcmp_le, mo, mf0, mz0, mf1, mz1, mf2, mz2, mf6, mz6, mf10, mz10, mf11, mz11, mf12, mz12, mf13, mz13, mf14, mz14, mf16, mz16, mf17, mz17, mf18, mz18, mf19, mz19, mi3, mi7, mi8, mi9, mi15, mi4, mi5, mi20, ma125, mn125, ma126, mn126, ma127, mn127, ma128, mn128, ma129, mn129, ma130, mn130, ma131, mn131, ma132, mn132, ma133, mn133, ma134, mn134, ma135, mn135, ma136, mn136, ma137, mn137]
  refine m_takesWord hT h7 p0 p1 fun D1 f1 e7 e8 => ?_
  refine m_wordOf (hT.k f1) p0 p1 e7 e8 ?_
  rcases tWd_or s p with ⟨i, hi, hiw⟩ | hn
  · have eW := tWd_i hi hiw
    have eR := rItm_i (a := a) hi hiw
    rw [tWl_e hiw] at e7
    -- what every item comes to, and its end
    have fin : ∀ v2 v3 : AV, yIt M D1 s (tEn s p) (rItm s a (tTo s p) (tSt s p) (tEn s p)) (fun x D' => (x = 0 → zW miX6_readsItem P 123 [zr 124, zi 0, v2, v3] D') ∧ (¬ x = 0 → zW miX6_readsItem P 119 [zr 124, zi 0, v2, v3] D')) := by
      intro v2 v3
      refine ⟨fun g D2 k1 k2 k3 k4 k5 k6 => ⟨fun w => absurd w (by decide), fun _ => ri_end ?_⟩, fun g D2 k1 k2 k3 => ⟨fun _ => ri_fail (h0 g D2 (f1.f.trans k1) k2 k3), fun w => absurd rfl w⟩⟩
      exact m_takesEnd (hT.f (f1.f.trans k1)) k2 (by omega) k6.2 (fun q D3 f3 g7 g8 => ⟨fun w => absurd w (by decide), fun _ => h1 g q D3 (f1.f.trans (k1.trans f3.f)) g7 (f3.r k3) k4 k5 k6⟩) (fun q D3 f3 g8 => ⟨fun _ => h2 g q D3 (f1.f.trans (k1.trans f3.f)) g8 ⟨by omega, k6.2⟩, fun w => absurd rfl w⟩)
    rw [eR] at fin
    have hT1 := hT.k f1
    have hR1 := f1.r hR
    rcases (by omega : i = 0 ∨ i = 1 ∨ i = 2 ∨ i = 3 ∨ i = 4 ∨ i = 5 ∨ i = 6) with e | e | e | e | e | e | e
    · subst e
      rw [eR] at h0
      refine ⟨fun w => absurd (by omega) w, fun _ => ?_⟩
      refine sX6_readsItem_20 _ _ _ _ _ ?_
      simp only [tX6_readsItem_20, w_ic, w_lc, w_lds, w_ild, w_lld, w_ald, w_ist, w_lst, w_ast, w_iinc, w_iadd, w_isub, w_imul, w_idiv, w_irem, w_iand, w_ior, w_ixor, w_ishl, w_ishr, w_iushr, w_ineg, w_ladd, w_lsub, w_lmul, w_ldiv, w_lrem, w_lcmp, w_i2l, w_l2i, w_dup, w_pop, w_dup2, w_ieq, w_zeq, w_ine, w_zne, w_ilt, w_zlt, w_ige, w_zge, w_igt, w_zgt, w_ile, w_zle, w_cut, w_tsw, zsw, w_iret, w_zret, w_lret, w_vret, w_nret, w_getI, w_getJ, w_getR, w_putI, w_putZ, w_putJ, w_iald, w_zald, w_iast, w_zast, w_alen, w_sI, w_sJ, w_sV, w_vI, w_vJ, w_vV, w_tI, w_mmax, w_mmin, w_mabs, w_lmax, w_acopy, gL, sL, kl_i, kl_l, kl_r, kl_s, kl_m, qI_i, qJ_l, qA_r, qA_s, pI_i, pJ_l, pA_r, pS_s, pM_m, pV_v, c1_i, c1_r, c1_s, c1_m, cS_0, cS_i, cS_l, cS_r, cS_s, cS_m, pN, z_rc_r, zE1, zE2, zE3, true_and, and_true, Nat.zero_add, Nat.reduceAdd, Nat.reduceLeDiff, true_or, or_true, Int.reduceLE, Int.reduceLT, zcmp_l, zcmp_g, zcmp_e, zcmp_le, mo, mf0, mz0, mf1, mz1, mf2, mz2, mf6, mz6, mf10, mz10, mf11, mz11, mf12, mz12, mf13, mz13, mf14, mz14, mf16, mz16, mf17, mz17, mf18, mz18, mf19, mz19, mi3, mi7, mi8, mi9, mi15, mi4, mi5, mi20, ma125, mn125, ma126, mn126, ma127, mn127, ma128, mn128, ma129, mn129, ma130, mn130, ma131, mn131, ma132, mn132, ma133, mn133, ma134, mn134, ma135, mn135, ma136, mn136, ma137, mn137]
      exact ⟨fun w => absurd w (by decide), fun _ => h0 rfl D1 f1.f e8 ⟨by show 0 ≤ tSt s p; omega, b.2.1⟩⟩
    · subst e
      refine ⟨fun _ => ?_, fun w => absurd (show ¬ tWd s p = 1 by omega) w⟩
      refine sX6_readsItem_20 _ _ _ _ _ ?_
      simp only [tX6_readsItem_20, w_ic, w_lc, w_lds, w_ild, w_lld, w_ald, w_ist, w_lst, w_ast, w_iinc, w_iadd, w_isub, w_imul, w_idiv, w_irem, w_iand, w_ior, w_ixor, w_ishl, w_ishr, w_iushr, w_ineg, w_ladd, w_lsub, w_lmul, w_ldiv, w_lrem, w_lcmp, w_i2l, w_l2i, w_dup, w_pop, w_dup2, w_ieq, w_zeq, w_ine, w_zne, w_ilt, w_zlt, w_ige, w_zge, w_igt, w_zgt, w_ile, w_zle, w_cut, w_tsw, zsw, w_iret, w_zret, w_lret, w_vret, w_nret, w_getI, w_getJ, w_getR, w_putI, w_putZ, w_putJ, w_iald, w_zald, w_iast, w_zast, w_alen, w_sI, w_sJ, w_sV, w_vI, w_vJ, w_vV, w_tI, w_mmax, w_mmin, w_mabs, w_lmax, w_acopy, gL, sL, kl_i, kl_l, kl_r, kl_s, kl_m, qI_i, qJ_l, qA_r, qA_s, pI_i, pJ_l, pA_r, pS_s, pM_m, pV_v, c1_i, c1_r, c1_s, c1_m, cS_0, cS_i, cS_l, cS_r, cS_s, cS_m, pN, z_rc_r, zE1, zE2, zE3, true_and, and_true, Nat.zero_add, Nat.reduceAdd, Nat.reduceLeDiff, true_or, or_true, Int.reduceLE, Int.reduceLT, zcmp_l, zcmp_g, zcmp_e, zcmp_le, mo, mf0, mz0, mf1, mz1, mf2, mz2, mf6, mz6, mf10, mz10, mf11, mz11, mf12, mz12, mf13, mz13, mf14, mz14, mf16, mz16, mf17, mz17, mf18, mz18, mf19, mz19, mi3, mi7, mi8, mi9, mi15, mi4, mi5, mi20, ma125, mn125, ma126, mn126, ma127, mn127, ma128, mn128, ma129, mn129, ma130, mn130, ma131, mn131, ma132, mn132, ma133, mn133, ma134, mn134, ma135, mn135, ma136, mn136, ma137, mn137]
      exact ⟨fun _ => ⟨fun w => absurd w (show ¬ tWd s p = 1 by omega), fun _ => ⟨fun w => absurd (show tWd s p = 2 by omega) w, fun _ => m_readsLadder hT1 hR1 hw ha e7 e8 (by omega) eb.2.1 (by omega) eb.1 (fin _ _)⟩⟩, fun w => absurd trivial w⟩
    · subst e
      refine ⟨fun _ => ?_, fun w => absurd (show ¬ tWd s p = 1 by omega) w⟩
      refine sX6_readsItem_20 _ _ _ _ _ ?_
      simp only [tX6_readsItem_20, w_ic, w_lc, w_lds, w_ild, w_lld, w_ald, w_ist, w_lst, w_ast, w_iinc, w_iadd, w_isub, w_imul, w_idiv, w_irem, w_iand, w_ior, w_ixor, w_ishl, w_ishr, w_iushr, w_ineg, w_ladd, w_lsub, w_lmul, w_ldiv, w_lrem, w_lcmp, w_i2l, w_l2i, w_dup, w_pop, w_dup2, w_ieq, w_zeq, w_ine, w_zne, w_ilt, w_zlt, w_ige, w_zge, w_igt, w_zgt, w_ile, w_zle, w_cut, w_tsw, zsw, w_iret, w_zret, w_lret, w_vret, w_nret, w_getI, w_getJ, w_getR, w_putI, w_putZ, w_putJ, w_iald, w_zald, w_iast, w_zast, w_alen, w_sI, w_sJ, w_sV, w_vI, w_vJ, w_vV, w_tI, w_mmax, w_mmin, w_mabs, w_lmax, w_acopy, gL, sL, kl_i, kl_l, kl_r, kl_s, kl_m, qI_i, qJ_l, qA_r, qA_s, pI_i, pJ_l, pA_r, pS_s, pM_m, pV_v, c1_i, c1_r, c1_s, c1_m, cS_0, cS_i, cS_l, cS_r, cS_s, cS_m, pN, z_rc_r, zE1, zE2, zE3, true_and, and_true, Nat.zero_add, Nat.reduceAdd, Nat.reduceLeDiff, true_or, or_true, Int.reduceLE, Int.reduceLT, zcmp_l, zcmp_g, zcmp_e, zcmp_le, mo, mf0, mz0, mf1, mz1, mf2, mz2, mf6, mz6, mf10, mz10, mf11, mz11, mf12, mz12, mf13, mz13, mf14, mz14, mf16, mz16, mf17, mz17, mf18, mz18, mf19, mz19, mi3, mi7, mi8, mi9, mi15, mi4, mi5, mi20, ma125, mn125, ma126, mn126, ma127, mn127, ma128, mn128, ma129, mn129, ma130, mn130, ma131, mn131, ma132, mn132, ma133, mn133, ma134, mn134, ma135, mn135, ma136, mn136, ma137, mn137]
      exact ⟨fun _ => ⟨fun w => absurd w (show ¬ tWd s p = 1 by omega), fun _ => ⟨fun _ => ⟨fun w => absurd (show tWd s p = 3 by omega) w, fun _ => m_readsGoer hT1 hR1 hw ha e7 e8 (by omega) eb.2.1 (by omega) eb.1 (fin _ _)⟩, fun w => absurd (show ¬ tWd s p = 2 by omega) w⟩⟩, fun w => absurd trivial w⟩
    · subst e
      refine ⟨fun _ => ?_, fun w => absurd (show ¬ tWd s p = 1 by omega) w⟩
      refine sX6_readsItem_20 _ _ _ _ _ ?_
      simp only [tX6_readsItem_20, w_ic, w_lc, w_lds, w_ild, w_lld, w_ald, w_ist, w_lst, w_ast, w_iinc, w_iadd, w_isub, w_imul, w_idiv, w_irem, w_iand, w_ior, w_ixor, w_ishl, w_ishr, w_iushr, w_ineg, w_ladd, w_lsub, w_lmul, w_ldiv, w_lrem, w_lcmp, w_i2l, w_l2i, w_dup, w_pop, w_dup2, w_ieq, w_zeq, w_ine, w_zne, w_ilt, w_zlt, w_ige, w_zge, w_igt, w_zgt, w_ile, w_zle, w_cut, w_tsw, zsw, w_iret, w_zret, w_lret, w_vret, w_nret, w_getI, w_getJ, w_getR, w_putI, w_putZ, w_putJ, w_iald, w_zald, w_iast, w_zast, w_alen, w_sI, w_sJ, w_sV, w_vI, w_vJ, w_vV, w_tI, w_mmax, w_mmin, w_mabs, w_lmax, w_acopy, gL, sL, kl_i, kl_l, kl_r, kl_s, kl_m, qI_i, qJ_l, qA_r, qA_s, pI_i, pJ_l, pA_r, pS_s, pM_m, pV_v, c1_i, c1_r, c1_s, c1_m, cS_0, cS_i, cS_l, cS_r, cS_s, cS_m, pN, z_rc_r, zE1, zE2, zE3, true_and, and_true, Nat.zero_add, Nat.reduceAdd, Nat.reduceLeDiff, true_or, or_true, Int.reduceLE, Int.reduceLT, zcmp_l, zcmp_g, zcmp_e, zcmp_le, mo, mf0, mz0, mf1, mz1, mf2, mz2, mf6, mz6, mf10, mz10, mf11, mz11, mf12, mz12, mf13, mz13, mf14, mz14, mf16, mz16, mf17, mz17, mf18, mz18, mf19, mz19, mi3, mi7, mi8, mi9, mi15, mi4, mi5, mi20, ma125, mn125, ma126, mn126, ma127, mn127, ma128, mn128, ma129, mn129, ma130, mn130, ma131, mn131, ma132, mn132, ma133, mn133, ma134, mn134, ma135, mn135, ma136, mn136, ma137, mn137]
      exact ⟨fun _ => ⟨fun w => absurd w (show ¬ tWd s p = 1 by omega), fun _ => ⟨fun _ => ⟨fun _ => ⟨fun w => absurd (show tWd s p = 4 by omega) w, fun _ => m_readsWindow hT1 hR1 hw ha e7 e8 (by omega) eb.2.1 (by omega) eb.1 (fin _ _)⟩, fun w => absurd (show ¬ tWd s p = 3 by omega) w⟩, fun w => absurd (show ¬ tWd s p = 2 by omega) w⟩⟩, fun w => absurd trivial w⟩
    · subst e
      refine ⟨fun _ => ?_, fun w => absurd (show ¬ tWd s p = 1 by omega) w⟩
      refine sX6_readsItem_20 _ _ _ _ _ ?_
      simp only [tX6_readsItem_20, w_ic, w_lc, w_lds, w_ild, w_lld, w_ald, w_ist, w_lst, w_ast, w_iinc, w_iadd, w_isub, w_imul, w_idiv, w_irem, w_iand, w_ior, w_ixor, w_ishl, w_ishr, w_iushr, w_ineg, w_ladd, w_lsub, w_lmul, w_ldiv, w_lrem, w_lcmp, w_i2l, w_l2i, w_dup, w_pop, w_dup2, w_ieq, w_zeq, w_ine, w_zne, w_ilt, w_zlt, w_ige, w_zge, w_igt, w_zgt, w_ile, w_zle, w_cut, w_tsw, zsw, w_iret, w_zret, w_lret, w_vret, w_nret, w_getI, w_getJ, w_getR, w_putI, w_putZ, w_putJ, w_iald, w_zald, w_iast, w_zast, w_alen, w_sI, w_sJ, w_sV, w_vI, w_vJ, w_vV, w_tI, w_mmax, w_mmin, w_mabs, w_lmax, w_acopy, gL, sL, kl_i, kl_l, kl_r, kl_s, kl_m, qI_i, qJ_l, qA_r, qA_s, pI_i, pJ_l, pA_r, pS_s, pM_m, pV_v, c1_i, c1_r, c1_s, c1_m, cS_0, cS_i, cS_l, cS_r, cS_s, cS_m, pN, z_rc_r, zE1, zE2, zE3, true_and, and_true, Nat.zero_add, Nat.reduceAdd, Nat.reduceLeDiff, true_or, or_true, Int.reduceLE, Int.reduceLT, zcmp_l, zcmp_g, zcmp_e, zcmp_le, mo, mf0, mz0, mf1, mz1, mf2, mz2, mf6, mz6, mf10, mz10, mf11, mz11, mf12, mz12, mf13, mz13, mf14, mz14, mf16, mz16, mf17, mz17, mf18, mz18, mf19, mz19, mi3, mi7, mi8, mi9, mi15, mi4, mi5, mi20, ma125, mn125, ma126, mn126, ma127, mn127, ma128, mn128, ma129, mn129, ma130, mn130, ma131, mn131, ma132, mn132, ma133, mn133, ma134, mn134, ma135, mn135, ma136, mn136, ma137, mn137]
      exact ⟨fun _ => ⟨fun w => absurd w (show ¬ tWd s p = 1 by omega), fun _ => ⟨fun _ => ⟨fun _ => ⟨fun _ => ⟨fun w => absurd (show tWd s p = 5 by omega) w, fun _ => m_readsTurn hT1 hR1 hw ha e7 (by omega) eb.2.1 (fin _ _)⟩, fun w => absurd (show ¬ tWd s p = 4 by omega) w⟩, fun w => absurd (show ¬ tWd s p = 3 by omega) w⟩, fun w => absurd (show ¬ tWd s p = 2 by omega) w⟩⟩, fun w => absurd trivial w⟩
    · subst e
      refine ⟨fun _ => ?_, fun w => absurd (show ¬ tWd s p = 1 by omega) w⟩
      refine sX6_readsItem_20 _ _ _ _ _ ?_
      simp only [tX6_readsItem_20, w_ic, w_lc, w_lds, w_ild, w_lld, w_ald, w_ist, w_lst, w_ast, w_iinc, w_iadd, w_isub, w_imul, w_idiv, w_irem, w_iand, w_ior, w_ixor, w_ishl, w_ishr, w_iushr, w_ineg, w_ladd, w_lsub, w_lmul, w_ldiv, w_lrem, w_lcmp, w_i2l, w_l2i, w_dup, w_pop, w_dup2, w_ieq, w_zeq, w_ine, w_zne, w_ilt, w_zlt, w_ige, w_zge, w_igt, w_zgt, w_ile, w_zle, w_cut, w_tsw, zsw, w_iret, w_zret, w_lret, w_vret, w_nret, w_getI, w_getJ, w_getR, w_putI, w_putZ, w_putJ, w_iald, w_zald, w_iast, w_zast, w_alen, w_sI, w_sJ, w_sV, w_vI, w_vJ, w_vV, w_tI, w_mmax, w_mmin, w_mabs, w_lmax, w_acopy, gL, sL, kl_i, kl_l, kl_r, kl_s, kl_m, qI_i, qJ_l, qA_r, qA_s, pI_i, pJ_l, pA_r, pS_s, pM_m, pV_v, c1_i, c1_r, c1_s, c1_m, cS_0, cS_i, cS_l, cS_r, cS_s, cS_m, pN, z_rc_r, zE1, zE2, zE3, true_and, and_true, Nat.zero_add, Nat.reduceAdd, Nat.reduceLeDiff, true_or, or_true, Int.reduceLE, Int.reduceLT, zcmp_l, zcmp_g, zcmp_e, zcmp_le, mo, mf0, mz0, mf1, mz1, mf2, mz2, mf6, mz6, mf10, mz10, mf11, mz11, mf12, mz12, mf13, mz13, mf14, mz14, mf16, mz16, mf17, mz17, mf18, mz18, mf19, mz19, mi3, mi7, mi8, mi9, mi15, mi4, mi5, mi20, ma125, mn125, ma126, mn126, ma127, mn127, ma128, mn128, ma129, mn129, ma130, mn130, ma131, mn131, ma132, mn132, ma133, mn133, ma134, mn134, ma135, mn135, ma136, mn136, ma137, mn137]
      exact ⟨fun _ => ⟨fun w => absurd w (show ¬ tWd s p = 1 by omega), fun _ => ⟨fun _ => ⟨fun _ => ⟨fun _ => ⟨fun _ => ⟨fun w => absurd (show tWd s p = 6 by omega) w, fun _ => m_readsDraw hT1 hR1 hw ha e7 (by omega) eb.2.1 (fin _ _)⟩, fun w => absurd (show ¬ tWd s p = 5 by omega) w⟩, fun w => absurd (show ¬ tWd s p = 4 by omega) w⟩, fun w => absurd (show ¬ tWd s p = 3 by omega) w⟩, fun w => absurd (show ¬ tWd s p = 2 by omega) w⟩⟩, fun w => absurd trivial w⟩
    · subst e
      refine ⟨fun _ => ?_, fun w => absurd (show ¬ tWd s p = 1 by omega) w⟩
      refine sX6_readsItem_20 _ _ _ _ _ ?_
      simp only [tX6_readsItem_20, w_ic, w_lc, w_lds, w_ild, w_lld, w_ald, w_ist, w_lst, w_ast, w_iinc, w_iadd, w_isub, w_imul, w_idiv, w_irem, w_iand, w_ior, w_ixor, w_ishl, w_ishr, w_iushr, w_ineg, w_ladd, w_lsub, w_lmul, w_ldiv, w_lrem, w_lcmp, w_i2l, w_l2i, w_dup, w_pop, w_dup2, w_ieq, w_zeq, w_ine, w_zne, w_ilt, w_zlt, w_ige, w_zge, w_igt, w_zgt, w_ile, w_zle, w_cut, w_tsw, zsw, w_iret, w_zret, w_lret, w_vret, w_nret, w_getI, w_getJ, w_getR, w_putI, w_putZ, w_putJ, w_iald, w_zald, w_iast, w_zast, w_alen, w_sI, w_sJ, w_sV, w_vI, w_vJ, w_vV, w_tI, w_mmax, w_mmin, w_mabs, w_lmax, w_acopy, gL, sL, kl_i, kl_l, kl_r, kl_s, kl_m, qI_i, qJ_l, qA_r, qA_s, pI_i, pJ_l, pA_r, pS_s, pM_m, pV_v, c1_i, c1_r, c1_s, c1_m, cS_0, cS_i, cS_l, cS_r, cS_s, cS_m, pN, z_rc_r, zE1, zE2, zE3, true_and, and_true, Nat.zero_add, Nat.reduceAdd, Nat.reduceLeDiff, true_or, or_true, Int.reduceLE, Int.reduceLT, zcmp_l, zcmp_g, zcmp_e, zcmp_le, mo, mf0, mz0, mf1, mz1, mf2, mz2, mf6, mz6, mf10, mz10, mf11, mz11, mf12, mz12, mf13, mz13, mf14, mz14, mf16, mz16, mf17, mz17, mf18, mz18, mf19, mz19, mi3, mi7, mi8, mi9, mi15, mi4, mi5, mi20, ma125, mn125, ma126, mn126, ma127, mn127, ma128, mn128, ma129, mn129, ma130, mn130, ma131, mn131, ma132, mn132, ma133, mn133, ma134, mn134, ma135, mn135, ma136, mn136, ma137, mn137]
      exact ⟨fun _ => ⟨fun w => absurd w (show ¬ tWd s p = 1 by omega), fun _ => ⟨fun _ => ⟨fun _ => ⟨fun _ => ⟨fun _ => ⟨fun _ => ⟨fun w => absurd (show tWd s p = 7 by omega) w, fun _ => m_readsMinutes hM hT1 hR1 hw ha e7 (by omega) eb.2.1 (fin _ _)⟩, fun w => absurd (show ¬ tWd s p = 6 by omega) w⟩, fun w => absurd (show ¬ tWd s p = 5 by omega) w⟩, fun w => absurd (show ¬ tWd s p = 4 by omega) w⟩, fun w => absurd (show ¬ tWd s p = 3 by omega) w⟩, fun w => absurd (show ¬ tWd s p = 2 by omega) w⟩⟩, fun w => absurd trivial w⟩
  · have eW := tWd_0 hn
    rw [rItm_0 hn] at h0
    refine ⟨fun _ => ?_, fun w => absurd (by omega) w⟩
    refine sX6_readsItem_20 _ _ _ _ _ ?_
    simp only [tX6_readsItem_20, w_ic, w_lc, w_lds, w_ild, w_lld, w_ald, w_ist, w_lst, w_ast, w_iinc, w_iadd, w_isub, w_imul, w_idiv, w_irem, w_iand, w_ior, w_ixor, w_ishl, w_ishr, w_iushr, w_ineg, w_ladd, w_lsub, w_lmul, w_ldiv, w_lrem, w_lcmp, w_i2l, w_l2i, w_dup, w_pop, w_dup2, w_ieq, w_zeq, w_ine, w_zne, w_ilt, w_zlt, w_ige, w_zge, w_igt, w_zgt, w_ile, w_zle, w_cut, w_tsw, zsw, w_iret, w_zret, w_lret, w_vret, w_nret, w_getI, w_getJ, w_getR, w_putI, w_putZ, w_putJ, w_iald, w_zald, w_iast, w_zast, w_alen, w_sI, w_sJ, w_sV, w_vI, w_vJ, w_vV, w_tI, w_mmax, w_mmin, w_mabs, w_lmax, w_acopy, gL, sL, kl_i, kl_l, kl_r, kl_s, kl_m, qI_i, qJ_l, qA_r, qA_s, pI_i, pJ_l, pA_r, pS_s, pM_m, pV_v, c1_i, c1_r, c1_s, c1_m, cS_0, cS_i, cS_l, cS_r, cS_s, cS_m, pN, z_rc_r, zE1, zE2, zE3, true_and, and_true, Nat.zero_add, Nat.reduceAdd, Nat.reduceLeDiff, true_or, or_true, Int.reduceLE, Int.reduceLT, zcmp_l, zcmp_g, zcmp_e, zcmp_le, mo, mf0, mz0, mf1, mz1, mf2, mz2, mf6, mz6, mf10, mz10, mf11, mz11, mf12, mz12, mf13, mz13, mf14, mz14, mf16, mz16, mf17, mz17, mf18, mz18, mf19, mz19, mi3, mi7, mi8, mi9, mi15, mi4, mi5, mi20, ma125, mn125, ma126, mn126, ma127, mn127, ma128, mn128, ma129, mn129, ma130, mn130, ma131, mn131, ma132, mn132, ma133, mn133, ma134, mn134, ma135, mn135, ma136, mn136, ma137, mn137]
    refine ⟨fun _ => ⟨fun w => absurd w (by omega), fun _ => ⟨fun _ => ⟨fun _ => ⟨fun _ => ⟨fun _ => ⟨fun _ => ⟨fun _ => ri_fail (h0 rfl D1 f1.f e8 ⟨by show 0 ≤ tSt s p; omega, b.2.1⟩), fun w => absurd (by omega) w⟩, fun w => absurd (by omega) w⟩, fun w => absurd (by omega) w⟩, fun w => absurd (by omega) w⟩, fun w => absurd (by omega) w⟩, fun w => absurd (by omega) w⟩⟩, fun w => absurd trivial w⟩
theorem m_read {n : Int} {s : Mem} (hW : WS n s) : mOK miX6_read [zr 124] s (r_read s) := by
  intro D P hM hP
  have hl := hW.2.1.1
  have hT : ∀ {D'}, yF D D' → yTx D' s := fun f => ⟨hW.2.1, (hM.s f).2.2.1.1, (hM.s f).2.2.1.2⟩
  have bad : ∀ x : Int, (rTxt s).1 = x → x < 0 → ∀ D', yF D D' → P x D' := fun x e hx D' f => by
    unfold r_read at hP
    rw [cIf_t (by omega)] at hP
    have := hP D' f.fr (hM.s f)
    rw [e] at this
    exact this
  have good : ∀ (x : Int) (a : Int → Int), rTxt s = (x, a) → 0 ≤ x → ∀ D', yF D D' → yR D' 819 a → zC miX6_copy [zr 124, zi 819, zi 0] D' (fun _ D'' => P x D'') := fun x a e hx D' f hR => by
    unfold r_read at hP
    rw [e] at hP
    rw [cIf_f (show ¬ x < 0 by omega)] at hP
    refine m_copy (by omega) (by omega) (by omega) hR fun D'' f2 hR2 => ?_
    exact hP D'' (f.n.trans f2.n).fr ((hM.s f).now f2.n hR2)
  have exit0 : ∀ (x nn : Int) (D1 : Mem), (rTxt s).1 = x → x < 0 → yF D D1 → x = -10 - D1 124 8 → 0 ≤ D1 124 8 → D1 124 8 ≤ 150 → zW miX6_read P 20 [zr 124, zi nn, zi 0] D1 := by
    intro x nn D1 e hx f h8 z0 z1
    have := bad x e hx D1 f
    refine sX6_read_20 _ _ _ _ _ ?_
    simp only [tX6_read_20, w_ic, w_lc, w_lds, w_ild, w_lld, w_ald, w_ist, w_lst, w_ast, w_iinc, w_iadd, w_isub, w_imul, w_idiv, w_irem, w_iand, w_ior, w_ixor, w_ishl, w_ishr, w_iushr, w_ineg, w_ladd, w_lsub, w_lmul, w_ldiv, w_lrem, w_lcmp, w_i2l, w_l2i, w_dup, w_pop, w_dup2, w_ieq, w_zeq, w_ine, w_zne, w_ilt, w_zlt, w_ige, w_zge, w_igt, w_zgt, w_ile, w_zle, w_cut, w_tsw, zsw, w_iret, w_zret, w_lret, w_vret, w_nret, w_getI, w_getJ, w_getR, w_putI, w_putZ, w_putJ, w_iald, w_zald, w_iast, w_zast, w_alen, w_sI, w_sJ, w_sV, w_vI, w_vJ, w_vV, w_tI, w_mmax, w_mmin, w_mabs, w_lmax, w_acopy, gL, sL, kl_i, kl_l, kl_r, kl_s, kl_m, qI_i, qJ_l, qA_r, qA_s, pI_i, pJ_l, pA_r, pS_s, pM_m, pV_v, c1_i, c1_r, c1_s, c1_m, cS_0, cS_i, cS_l, cS_r, cS_s, cS_m, pN, z_rc_r, zE1, zE2, zE3, true_and, and_true, Nat.zero_add, Nat.reduceAdd, Nat.reduceLeDiff, true_or, or_true, Int.reduceLE, Int.reduceLT, zcmp_l, zcmp_g, zcmp_e, zcmp_le, mo, mf0, mz0, mf1, mz1, mf2, mz2, mf6, mz6, mf10, mz10, mf11, mz11, mf12, mz12, mf13, mz13, mf14, mz14, mf16, mz16, mf17, mz17, mf18, mz18, mf19, mz19, mi3, mi7, mi8, mi9, mi15, mi4, mi5, mi20, ma125, mn125, ma126, mn126, ma127, mn127, ma128, mn128, ma129, mn129, ma130, mn130, ma131, mn131, ma132, mn132, ma133, mn133, ma134, mn134, ma135, mn135, ma136, mn136, ma137, mn137]
    refine ⟨fun _ => ⟨fun w => absurd trivial w, fun _ => ⟨⟨by omega, by omega⟩, ?_⟩⟩, fun w => absurd trivial w⟩
    rw [← h8]
    exact this
  have loop : ∀ (r i : Nat) (nn : Int) (D1 : Mem) (a : Int → Int) (p : Int), 150 - i = r → i ≤ 150 → yF D D1 → D1 124 7 = tSt s p → D1 124 8 = tSt s p → 0 ≤ p → p ≤ s 4 0 → 2 * (i : Int) ≤ p → yR D1 819 a → WA (99 * i) a → a 120 = 0 → 1 ≤ nn → nn ≤ 1 + i → rTxt s = rAll s r a p nn → zW miX6_read P 20 [zr 124, zi nn, zi 1] D1 := by
    intro r
    induction r with
    | zero => intro i nn D1 a p hr hi f h7 h8 p0 p1 pi; omega
    | succ r ih =>
      intro i nn D1 a p hr hi f h7 h8 p0 p1 pi hR hw ha n0 n1 hE
      have b := tSt_b hl p0 p1
      have eb := tEn_b hl p0 p1
      have eA : rAll s (r + 1) a p nn = cIf (tTo s p = 0) (nn, a) (cIf ((rItm s a (tTo s p) (tSt s p) (tEn s p)).1 = 1) (cIf (tTo s (rItm s a (tTo s p) (tSt s p) (tEn s p)).2.2 = 3) (rAll s r (rItm s a (tTo s p) (tSt s p) (tEn s p)).2.1 (tEn s (rItm s a (tTo s p) (tSt s p) (tEn s p)).2.2) (nn + 1)) (-10 - tSt s (rItm s a (tTo s p) (tSt s p) (tEn s p)).2.2, a)) (-10 - (rItm s a (tTo s p) (tSt s p) (tEn s p)).2.2, a)) := rfl
      rw [eA] at hE
      have lt := (hT f).2.1
      refine sX6_read_20 _ _ _ _ _ ?_
      simp only [tX6_read_20, w_ic, w_lc, w_lds, w_ild, w_lld, w_ald, w_ist, w_lst, w_ast, w_iinc, w_iadd, w_isub, w_imul, w_idiv, w_irem, w_iand, w_ior, w_ixor, w_ishl, w_ishr, w_iushr, w_ineg, w_ladd, w_lsub, w_lmul, w_ldiv, w_lrem, w_lcmp, w_i2l, w_l2i, w_dup, w_pop, w_dup2, w_ieq, w_zeq, w_ine, w_zne, w_ilt, w_zlt, w_ige, w_zge, w_igt, w_zgt, w_ile, w_zle, w_cut, w_tsw, zsw, w_iret, w_zret, w_lret, w_vret, w_nret, w_getI, w_getJ, w_getR, w_putI, w_putZ, w_putJ, w_iald, w_zald, w_iast, w_zast, w_alen, w_sI, w_sJ, w_sV, w_vI, w_vJ, w_vV, w_tI, w_mmax, w_mmin, w_mabs, w_lmax, w_acopy, gL, sL, kl_i, kl_l, kl_r, kl_s, kl_m, qI_i, qJ_l, qA_r, qA_s, pI_i, pJ_l, pA_r, pS_s, pM_m, pV_v, c1_i, c1_r, c1_s, c1_m, cS_0, cS_i, cS_l, cS_r, cS_s, cS_m, pN, z_rc_r, zE1, zE2, zE3, true_and, and_true, Nat.zero_add, Nat.reduceAdd, Nat.reduceLeDiff, true_or, or_true, Int.reduceLE, Int.reduceLT, zcmp_l, zcmp_g, zcmp_e, zcmp_le, mo, mf0, mz0, mf1, mz1, mf2, mz2, mf6, mz6, mf10, mz10, mf11, mz11, mf12, mz12, mf13, mz13, mf14, mz14, mf16, mz16, mf17, mz17, mf18, mz18, mf19, mz19, mi3, mi7, mi8, mi9, mi15, mi4, mi5, mi20, ma125, mn125, ma126, mn126, ma127, mn127, ma128, mn128, ma129, mn129, ma130, mn130, ma131, mn131, ma132, mn132, ma133, mn133, ma134, mn134, ma135, mn135, ma136, mn136, ma137, mn137]
      rw [h8, lt]
      by_cases ht : tTo s p = 0
      · rw [cIf_t ht] at hE
        have := eb.2.2.2 ht
        have fin := good nn a hE (by omega) D1 f hR
        refine ⟨fun w => absurd w (by decide), fun _ => ⟨fun w => absurd w (by omega), fun _ => ⟨fun _ => ⟨fun _ => fin, fun w => absurd (by decide) w⟩, fun w => absurd (by omega) w⟩⟩⟩
      · rw [cIf_f ht] at hE
        have hlt := eb.2.2.1 ht
        have i2 := tSt_i hl p0 p1
        have i3 := tTo_i hl p0 p1
        have i4 := tEn_i hl p0 p1
        have next : zC miX6_readsItem [zr 124, zi 0] D1 (fun x D' => zR (nn + 1) ∧ (x = 0 → zW miX6_read P 20 [zr 124, zi (nn + 1), zi x] D') ∧ (¬ x = 0 → zC miX6_blanks [zr 124] D' (fun _ D'' => zW miX6_read P 20 [zr 124, zi (nn + 1), zi x] D''))) := by
          refine m_readsNext (M := 99 * i) (p := tSt s p) (by omega) (hT f) hR hw ha h7 (by omega) b.2.1 ?_ ?_ ?_
          · rw [i2, i3, i4]
            intro g g2 D2 f2 g7 hR2 hw2 ha2 gb
            rw [cIf_t g, cIf_t g2] at hE
            have b3 := tSt_b hl (p := (rItm s a (tTo s p) (tSt s p) (tEn s p)).2.2) (by omega) gb.2
            have eb3 := tEn_b hl (p := (rItm s a (tTo s p) (tSt s p) (tEn s p)).2.2) (by omega) gb.2
            have hlt3 := eb3.2.2.1 (by omega)
            refine ⟨⟨by omega, by omega⟩, fun w => absurd w (by decide), fun _ => ?_⟩
            refine m_blanks (hT (f.trans f2)) g7 (by omega) eb3.2.1 fun D3 f3 k7 k8 _ => ?_
            exact ih (i + 1) (nn + 1) D3 _ _ (by omega) (by omega) (f.trans (f2.trans f3.f)) k7 k8 (by omega) eb3.2.1 (by omega) (f3.r hR2) (by rw [show 99 * ((i + 1 : Nat) : Int) = 99 * i + 99 by omega]; exact hw2) ha2 (by omega) (by omega) hE
          · rw [i2, i3, i4]
            intro g g2 D2 f2 g8 gb
            rw [cIf_t g, cIf_f g2] at hE
            have b3 := tSt_b hl gb.1 gb.2
            refine ⟨⟨by omega, by omega⟩, fun _ => exit0 _ (nn + 1) D2 (by rw [hE]) ?_ (f.trans f2) (by rw [g8]) (by omega) (by omega), fun w => absurd rfl w⟩
            show -10 - tSt s _ < 0
            omega
          · rw [i2, i3, i4]
            intro g D2 f2 g8 gb
            rw [cIf_f (by omega)] at hE
            refine ⟨⟨by omega, by omega⟩, fun _ => exit0 _ (nn + 1) D2 (by rw [hE]) ?_ (f.trans f2) (by rw [g8]) (by omega) (by omega), fun w => absurd rfl w⟩
            show -10 - _ < 0
            omega
        refine ⟨fun w => absurd w (by decide), fun _ => ⟨fun _ => ⟨fun _ => next, fun w => absurd (by omega) w⟩, fun w => absurd (by omega) w⟩⟩
  refine e_X6_read ?_
  simp only [tX6_read_0, w_ic, w_lc, w_lds, w_ild, w_lld, w_ald, w_ist, w_lst, w_ast, w_iinc, w_iadd, w_isub, w_imul, w_idiv, w_irem, w_iand, w_ior, w_ixor, w_ishl, w_ishr, w_iushr, w_ineg, w_ladd, w_lsub, w_lmul, w_ldiv, w_lrem, w_lcmp, w_i2l, w_l2i, w_dup, w_pop, w_dup2, w_ieq, w_zeq, w_ine, w_zne, w_ilt, w_zlt, w_ige, w_zge, w_igt, w_zgt, w_ile, w_zle, w_cut, w_tsw, zsw, w_iret, w_zret, w_lret, w_vret, w_nret, w_getI, w_getJ, w_getR, w_putI, w_putZ, w_putJ, w_iald, w_zald, w_iast, w_zast, w_alen, w_sI, w_sJ, w_sV, w_vI, w_vJ, w_vV, w_tI, w_mmax, w_mmin, w_mabs, w_lmax, w_acopy, gL, sL, kl_i, kl_l, kl_r, kl_s, kl_m, qI_i, qJ_l, qA_r, qA_s, pI_i, pJ_l, pA_r, pS_s, pM_m, pV_v, c1_i, c1_r, c1_s, c1_m, cS_0, cS_i, cS_l, cS_r, cS_s, cS_m, pN, z_rc_r, zE1, zE2, zE3, true_and, and_true, Nat.zero_add, Nat.reduceAdd, Nat.reduceLeDiff, true_or, or_true, Int.reduceLE, Int.reduceLT, zcmp_l, zcmp_g, zcmp_e, zcmp_le, mo, mf0, mz0, mf1, mz1, mf2, mz2, mf6, mz6, mf10, mz10, mf11, mz11, mf12, mz12, mf13, mz13, mf14, mz14, mf16, mz16, mf17, mz17, mf18, mz18, mf19, mz19, mi3, mi7, mi8, mi9, mi15, mi4, mi5, mi20, ma125, mn125, ma126, mn126, ma127, mn127, ma128, mn128, ma129, mn129, ma130, mn130, ma131, mn131, ma132, mn132, ma133, mn133, ma134, mn134, ma135, mn135, ma136, mn136, ma137, mn137]
  refine m_empties (Or.inr rfl) fun D0 f0 hR0 => ?_
  have f00 : yF D (zU D0 124 7 0) := f0.s.trans (yF.u4 (by decide))
  refine m_blanks (hT f00) zU_s (Int.le_refl _) hl.1 fun D1 f1 h7 h8 _ => ?_
  have b := tSt_b hl (Int.le_refl 0) hl.1
  have eb := tEn_b hl (Int.le_refl 0) hl.1
  have i2 := tSt_i hl (Int.le_refl 0) hl.1
  have i3 := tTo_i hl (Int.le_refl 0) hl.1
  have i4 := tEn_i hl (Int.le_refl 0) hl.1
  have fD : yF D D1 := f00.trans f1.f
  have hR1 : yR D1 819 (fun _ => 0) := f1.r (hR0.o (by decide))
  have hX : ∀ x, rTxt s = x → rTxt s = x := fun _ h => h
  have eX : rTxt s = cIf (isWd s (tTo s 0) (tSt s 0) (tEn s 0) 0) (cIf (tTo s (tEn s 0) = 3) (rAll s 150 (fun _ => 0) (tEn s (tEn s 0)) 1) (-10 - tSt s (tEn s 0), fun _ => 0)) (-10 - tSt s 0, fun _ => 0) := rfl
  have w0 : WA (99 * ((0 : Nat) : Int)) (fun _ => 0) := by
    unfold WA
    dsimp only
    refine ⟨by omega, ?_, ?_, ?_, ?_, ?_, ?_, ?_⟩
    all_goals (intro k k0 k1; omega)
  have first : zC miX6_readsItem [zr 124, zi 1] D1 (fun x D' => zR (0 + 1) ∧ (x = 0 → zW miX6_read P 20 [zr 124, zi (0 + 1), zi x] D') ∧ (¬ x = 0 → zC miX6_blanks [zr 124] D' (fun _ D'' => zW miX6_read P 20 [zr 124, zi (0 + 1), zi x] D''))) := by
    refine m_readsFirst (p := tSt s 0) (hT fD) h7 (by omega) b.2.1 ?_ ?_ ?_
    · rw [i2, i3, i4]
      intro g g2 D2 f2 g7
      rw [cIf_t g, cIf_t g2] at eX
      have b3 := tSt_b hl (p := tEn s 0) (by omega) eb.2.1
      have eb3 := tEn_b hl (p := tEn s 0) (by omega) eb.2.1
      have hlt3 := eb3.2.2.1 (by omega)
      refine ⟨⟨by omega, by omega⟩, fun w => absurd w (by decide), fun _ => ?_⟩
      refine m_blanks (hT (fD.trans f2.f)) g7 (by omega) eb3.2.1 fun D3 f3 k7 k8 _ => ?_
      exact loop 150 0 (0 + 1) D3 (fun _ => 0) _ rfl (by omega) (fD.trans (f2.f.trans f3.f)) k7 k8 (by omega) eb3.2.1 (by omega) (f3.r (f2.r hR1)) w0 rfl (by decide) (by decide) eX
    · rw [i2, i3, i4]
      intro g g2 D2 f2 g8
      rw [cIf_t g, cIf_f g2] at eX
      have b3 := tSt_b hl (p := tEn s 0) (by omega) eb.2.1
      refine ⟨⟨by omega, by omega⟩, fun _ => exit0 _ (0 + 1) D2 (by rw [eX]) ?_ (fD.trans f2.f) (by rw [g8]) (by omega) (by omega), fun w => absurd rfl w⟩
      show -10 - tSt s _ < 0
      omega
    · rw [i2, i3, i4]
      intro g D2 f2 g8
      rw [cIf_f g] at eX
      refine ⟨⟨by omega, by omega⟩, fun _ => exit0 _ (0 + 1) D2 (by rw [eX]) ?_ (fD.trans f2.f) (by rw [g8]) (by omega) (by omega), fun w => absurd rfl w⟩
      show -10 - tSt s _ < 0
      omega
  refine sX6_read_20 _ _ _ _ _ ?_
  simp only [tX6_read_20, w_ic, w_lc, w_lds, w_ild, w_lld, w_ald, w_ist, w_lst, w_ast, w_iinc, w_iadd, w_isub, w_imul, w_idiv, w_irem, w_iand, w_ior, w_ixor, w_ishl, w_ishr, w_iushr, w_ineg, w_ladd, w_lsub, w_lmul, w_ldiv, w_lrem, w_lcmp, w_i2l, w_l2i, w_dup, w_pop, w_dup2, w_ieq, w_zeq, w_ine, w_zne, w_ilt, w_zlt, w_ige, w_zge, w_igt, w_zgt, w_ile, w_zle, w_cut, w_tsw, zsw, w_iret, w_zret, w_lret, w_vret, w_nret, w_getI, w_getJ, w_getR, w_putI, w_putZ, w_putJ, w_iald, w_zald, w_iast, w_zast, w_alen, w_sI, w_sJ, w_sV, w_vI, w_vJ, w_vV, w_tI, w_mmax, w_mmin, w_mabs, w_lmax, w_acopy, gL, sL, kl_i, kl_l, kl_r, kl_s, kl_m, qI_i, qJ_l, qA_r, qA_s, pI_i, pJ_l, pA_r, pS_s, pM_m, pV_v, c1_i, c1_r, c1_s, c1_m, cS_0, cS_i, cS_l, cS_r, cS_s, cS_m, pN, z_rc_r, zE1, zE2, zE3, true_and, and_true, Nat.zero_add, Nat.reduceAdd, Nat.reduceLeDiff, true_or, or_true, Int.reduceLE, Int.reduceLT, zcmp_l, zcmp_g, zcmp_e, zcmp_le, mo, mf0, mz0, mf1, mz1, mf2, mz2, mf6, mz6, mf10, mz10, mf11, mz11, mf12, mz12, mf13, mz13, mf14, mz14, mf16, mz16, mf17, mz17, mf18, mz18, mf19, mz19, mi3, mi7, mi8, mi9, mi15, mi4, mi5, mi20, ma125, mn125, ma126, mn126, ma127, mn127, ma128, mn128, ma129, mn129, ma130, mn130, ma131, mn131, ma132, mn132, ma133, mn133, ma134, mn134, ma135, mn135, ma136, mn136, ma137, mn137]
  rw [h8, (hT fD).2.1]
  exact ⟨fun w => absurd w (by decide), fun _ => ⟨fun _ => ⟨fun w => absurd trivial w, fun _ => first⟩, fun _ => ⟨fun w => absurd trivial w, fun _ => ⟨fun w => absurd trivial w, fun _ => first⟩⟩⟩⟩
