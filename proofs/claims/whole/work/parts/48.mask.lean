/-! ===== 48: the model: what is asked of one, of two, of all ===== -/
theorem m_of {n i x : Int} {s : Mem} (hW : WS n s) (hn : n < 1000000) : mOK miX6_of [zr 124, zi i, zi x] s (r_of s i x) := by
  intro D P hM hP
  have w := hW.1.1
  have h := hM.1
  have n1 := w.n1
  have hl : ([60, 70, 80, 90, 100, 110, 117] : List Nat).length = 7 := rfl
  unfold r_of at hP
  refine e_X6_of ?_
  simp only [tX6_of_0, w_ic, w_lc, w_lds, w_ild, w_lld, w_ald, w_ist, w_lst, w_ast, w_iinc, w_iadd, w_isub, w_imul, w_idiv, w_irem, w_iand, w_ior, w_ixor, w_ishl, w_ishr, w_iushr, w_ineg, w_ladd, w_lsub, w_lmul, w_ldiv, w_lrem, w_lcmp, w_i2l, w_l2i, w_dup, w_pop, w_dup2, w_ieq, w_zeq, w_ine, w_zne, w_ilt, w_zlt, w_ige, w_zge, w_igt, w_zgt, w_ile, w_zle, w_cut, w_tsw, zsw, w_iret, w_zret, w_lret, w_vret, w_nret, w_getI, w_getJ, w_getR, w_putI, w_putZ, w_putJ, w_iald, w_zald, w_iast, w_zast, w_alen, w_sI, w_sJ, w_sV, w_vI, w_vJ, w_vV, w_tI, w_mmax, w_mmin, w_mabs, w_lmax, w_acopy, gL, sL, kl_i, kl_l, kl_r, kl_s, kl_m, qI_i, qJ_l, qA_r, qA_s, pI_i, pJ_l, pA_r, pS_s, pM_m, pV_v, c1_i, c1_r, c1_s, c1_m, cS_0, cS_i, cS_l, cS_r, cS_s, cS_m, pN, z_rc_r, zE1, zE2, zE3, true_and, and_true, Nat.zero_add, Nat.reduceAdd, Nat.reduceLeDiff, true_or, or_true, Int.reduceLE, Int.reduceLT, zcmp_l, zcmp_g, zcmp_e, zcmp_le, mo, mf0, mz0, mf1, mz1, mf2, mz2, mf6, mz6, mf10, mz10, mf11, mz11, mf12, mz12, mf13, mz13, mf14, mz14, mf16, mz16, mf17, mz17, mf18, mz18, mf19, mz19, mi3, mi7, mi8, mi9, mi15, mi4, mi5, mi20, ma125, mn125, ma126, mn126, ma127, mn127, ma128, mn128, ma129, mn129, ma130, mn130, ma131, mn131, ma132, mn132, ma133, mn133, ma134, mn134, ma135, mn135, ma136, mn136, ma137, mn137]
  refine m_isGoer h w.n1 (fun q => ⟨fun _ => ⟨⟨fun g => ?_, fun g => ?_, fun g => ?_, fun g => ?_, fun g => ?_, fun g => ?_, fun g => ?_⟩, fun g => ?_⟩, fun w => absurd (by decide) w⟩) (fun q => ⟨fun w => absurd rfl w, fun _ => ?_⟩)
  · refine sX6_of_60 _ _ _ _ _ ?_
    simp only [tX6_of_60, w_ic, w_lc, w_lds, w_ild, w_lld, w_ald, w_ist, w_lst, w_ast, w_iinc, w_iadd, w_isub, w_imul, w_idiv, w_irem, w_iand, w_ior, w_ixor, w_ishl, w_ishr, w_iushr, w_ineg, w_ladd, w_lsub, w_lmul, w_ldiv, w_lrem, w_lcmp, w_i2l, w_l2i, w_dup, w_pop, w_dup2, w_ieq, w_zeq, w_ine, w_zne, w_ilt, w_zlt, w_ige, w_zge, w_igt, w_zgt, w_ile, w_zle, w_cut, w_tsw, zsw, w_iret, w_zret, w_lret, w_vret, w_nret, w_getI, w_getJ, w_getR, w_putI, w_putZ, w_putJ, w_iald, w_zald, w_iast, w_zast, w_alen, w_sI, w_sJ, w_sV, w_vI, w_vJ, w_vV, w_tI, w_mmax, w_mmin, w_mabs, w_lmax, w_acopy, gL, sL, kl_i, kl_l, kl_r, kl_s, kl_m, qI_i, qJ_l, qA_r, qA_s, pI_i, pJ_l, pA_r, pS_s, pM_m, pV_v, c1_i, c1_r, c1_s, c1_m, cS_0, cS_i, cS_l, cS_r, cS_s, cS_m, pN, z_rc_r, zE1, zE2, zE3, true_and, and_true, Nat.zero_add, Nat.reduceAdd, Nat.reduceLeDiff, true_or, or_true, Int.reduceLE, Int.reduceLT, zcmp_l, zcmp_g, zcmp_e, zcmp_le, mo, mf0, mz0, mf1, mz1, mf2, mz2, mf6, mz6, mf10, mz10, mf11, mz11, mf12, mz12, mf13, mz13, mf14, mz14, mf16, mz16, mf17, mz17, mf18, mz18, mf19, mz19, mi3, mi7, mi8, mi9, mi15, mi4, mi5, mi20, ma125, mn125, ma126, mn126, ma127, mn127, ma128, mn128, ma129, mn129, ma130, mn130, ma131, mn131, ma132, mn132, ma133, mn133, ma134, mn134, ma135, mn135, ma136, mn136, ma137, mn137]
    rw [cIf_t ⟨q, by omega, by omega⟩, cIf_f (by omega), cIf_f (by omega)] at hP
    repeat' (with_reducible apply And.intro)
    all_goals first | omega | exact ⟨by omega, by omega⟩ | skip
    rw [h.z (by omega) (by omega), show 16 + i = 16 + 6 * x + i by omega]
    exact hP D Fr.rfl hM
  · refine sX6_of_70 _ _ _ _ _ ?_
    simp only [tX6_of_70, w_ic, w_lc, w_lds, w_ild, w_lld, w_ald, w_ist, w_lst, w_ast, w_iinc, w_iadd, w_isub, w_imul, w_idiv, w_irem, w_iand, w_ior, w_ixor, w_ishl, w_ishr, w_iushr, w_ineg, w_ladd, w_lsub, w_lmul, w_ldiv, w_lrem, w_lcmp, w_i2l, w_l2i, w_dup, w_pop, w_dup2, w_ieq, w_zeq, w_ine, w_zne, w_ilt, w_zlt, w_ige, w_zge, w_igt, w_zgt, w_ile, w_zle, w_cut, w_tsw, zsw, w_iret, w_zret, w_lret, w_vret, w_nret, w_getI, w_getJ, w_getR, w_putI, w_putZ, w_putJ, w_iald, w_zald, w_iast, w_zast, w_alen, w_sI, w_sJ, w_sV, w_vI, w_vJ, w_vV, w_tI, w_mmax, w_mmin, w_mabs, w_lmax, w_acopy, gL, sL, kl_i, kl_l, kl_r, kl_s, kl_m, qI_i, qJ_l, qA_r, qA_s, pI_i, pJ_l, pA_r, pS_s, pM_m, pV_v, c1_i, c1_r, c1_s, c1_m, cS_0, cS_i, cS_l, cS_r, cS_s, cS_m, pN, z_rc_r, zE1, zE2, zE3, true_and, and_true, Nat.zero_add, Nat.reduceAdd, Nat.reduceLeDiff, true_or, or_true, Int.reduceLE, Int.reduceLT, zcmp_l, zcmp_g, zcmp_e, zcmp_le, mo, mf0, mz0, mf1, mz1, mf2, mz2, mf6, mz6, mf10, mz10, mf11, mz11, mf12, mz12, mf13, mz13, mf14, mz14, mf16, mz16, mf17, mz17, mf18, mz18, mf19, mz19, mi3, mi7, mi8, mi9, mi15, mi4, mi5, mi20, ma125, mn125, ma126, mn126, ma127, mn127, ma128, mn128, ma129, mn129, ma130, mn130, ma131, mn131, ma132, mn132, ma133, mn133, ma134, mn134, ma135, mn135, ma136, mn136, ma137, mn137]
    rw [cIf_t ⟨q, by omega, by omega⟩, cIf_f (by omega), cIf_f (by omega)] at hP
    repeat' (with_reducible apply And.intro)
    all_goals first | omega | exact ⟨by omega, by omega⟩ | skip
    rw [h.z (by omega) (by omega), show 22 + i = 16 + 6 * x + i by omega]
    exact hP D Fr.rfl hM
  · refine sX6_of_80 _ _ _ _ _ ?_
    simp only [tX6_of_80, w_ic, w_lc, w_lds, w_ild, w_lld, w_ald, w_ist, w_lst, w_ast, w_iinc, w_iadd, w_isub, w_imul, w_idiv, w_irem, w_iand, w_ior, w_ixor, w_ishl, w_ishr, w_iushr, w_ineg, w_ladd, w_lsub, w_lmul, w_ldiv, w_lrem, w_lcmp, w_i2l, w_l2i, w_dup, w_pop, w_dup2, w_ieq, w_zeq, w_ine, w_zne, w_ilt, w_zlt, w_ige, w_zge, w_igt, w_zgt, w_ile, w_zle, w_cut, w_tsw, zsw, w_iret, w_zret, w_lret, w_vret, w_nret, w_getI, w_getJ, w_getR, w_putI, w_putZ, w_putJ, w_iald, w_zald, w_iast, w_zast, w_alen, w_sI, w_sJ, w_sV, w_vI, w_vJ, w_vV, w_tI, w_mmax, w_mmin, w_mabs, w_lmax, w_acopy, gL, sL, kl_i, kl_l, kl_r, kl_s, kl_m, qI_i, qJ_l, qA_r, qA_s, pI_i, pJ_l, pA_r, pS_s, pM_m, pV_v, c1_i, c1_r, c1_s, c1_m, cS_0, cS_i, cS_l, cS_r, cS_s, cS_m, pN, z_rc_r, zE1, zE2, zE3, true_and, and_true, Nat.zero_add, Nat.reduceAdd, Nat.reduceLeDiff, true_or, or_true, Int.reduceLE, Int.reduceLT, zcmp_l, zcmp_g, zcmp_e, zcmp_le, mo, mf0, mz0, mf1, mz1, mf2, mz2, mf6, mz6, mf10, mz10, mf11, mz11, mf12, mz12, mf13, mz13, mf14, mz14, mf16, mz16, mf17, mz17, mf18, mz18, mf19, mz19, mi3, mi7, mi8, mi9, mi15, mi4, mi5, mi20, ma125, mn125, ma126, mn126, ma127, mn127, ma128, mn128, ma129, mn129, ma130, mn130, ma131, mn131, ma132, mn132, ma133, mn133, ma134, mn134, ma135, mn135, ma136, mn136, ma137, mn137]
    rw [cIf_t ⟨q, by omega, by omega⟩, cIf_f (by omega), cIf_f (by omega)] at hP
    repeat' (with_reducible apply And.intro)
    all_goals first | omega | exact ⟨by omega, by omega⟩ | skip
    rw [h.z (by omega) (by omega), show 28 + i = 16 + 6 * x + i by omega]
    exact hP D Fr.rfl hM
  · refine sX6_of_90 _ _ _ _ _ ?_
    simp only [tX6_of_90, w_ic, w_lc, w_lds, w_ild, w_lld, w_ald, w_ist, w_lst, w_ast, w_iinc, w_iadd, w_isub, w_imul, w_idiv, w_irem, w_iand, w_ior, w_ixor, w_ishl, w_ishr, w_iushr, w_ineg, w_ladd, w_lsub, w_lmul, w_ldiv, w_lrem, w_lcmp, w_i2l, w_l2i, w_dup, w_pop, w_dup2, w_ieq, w_zeq, w_ine, w_zne, w_ilt, w_zlt, w_ige, w_zge, w_igt, w_zgt, w_ile, w_zle, w_cut, w_tsw, zsw, w_iret, w_zret, w_lret, w_vret, w_nret, w_getI, w_getJ, w_getR, w_putI, w_putZ, w_putJ, w_iald, w_zald, w_iast, w_zast, w_alen, w_sI, w_sJ, w_sV, w_vI, w_vJ, w_vV, w_tI, w_mmax, w_mmin, w_mabs, w_lmax, w_acopy, gL, sL, kl_i, kl_l, kl_r, kl_s, kl_m, qI_i, qJ_l, qA_r, qA_s, pI_i, pJ_l, pA_r, pS_s, pM_m, pV_v, c1_i, c1_r, c1_s, c1_m, cS_0, cS_i, cS_l, cS_r, cS_s, cS_m, pN, z_rc_r, zE1, zE2, zE3, true_and, and_true, Nat.zero_add, Nat.reduceAdd, Nat.reduceLeDiff, true_or, or_true, Int.reduceLE, Int.reduceLT, zcmp_l, zcmp_g, zcmp_e, zcmp_le, mo, mf0, mz0, mf1, mz1, mf2, mz2, mf6, mz6, mf10, mz10, mf11, mz11, mf12, mz12, mf13, mz13, mf14, mz14, mf16, mz16, mf17, mz17, mf18, mz18, mf19, mz19, mi3, mi7, mi8, mi9, mi15, mi4, mi5, mi20, ma125, mn125, ma126, mn126, ma127, mn127, ma128, mn128, ma129, mn129, ma130, mn130, ma131, mn131, ma132, mn132, ma133, mn133, ma134, mn134, ma135, mn135, ma136, mn136, ma137, mn137]
    rw [cIf_t ⟨q, by omega, by omega⟩, cIf_f (by omega), cIf_f (by omega)] at hP
    repeat' (with_reducible apply And.intro)
    all_goals first | omega | exact ⟨by omega, by omega⟩ | skip
    rw [h.z (by omega) (by omega), show 34 + i = 16 + 6 * x + i by omega]
    exact hP D Fr.rfl hM
  · refine sX6_of_100 _ _ _ _ _ ?_
    simp only [tX6_of_100, w_ic, w_lc, w_lds, w_ild, w_lld, w_ald, w_ist, w_lst, w_ast, w_iinc, w_iadd, w_isub, w_imul, w_idiv, w_irem, w_iand, w_ior, w_ixor, w_ishl, w_ishr, w_iushr, w_ineg, w_ladd, w_lsub, w_lmul, w_ldiv, w_lrem, w_lcmp, w_i2l, w_l2i, w_dup, w_pop, w_dup2, w_ieq, w_zeq, w_ine, w_zne, w_ilt, w_zlt, w_ige, w_zge, w_igt, w_zgt, w_ile, w_zle, w_cut, w_tsw, zsw, w_iret, w_zret, w_lret, w_vret, w_nret, w_getI, w_getJ, w_getR, w_putI, w_putZ, w_putJ, w_iald, w_zald, w_iast, w_zast, w_alen, w_sI, w_sJ, w_sV, w_vI, w_vJ, w_vV, w_tI, w_mmax, w_mmin, w_mabs, w_lmax, w_acopy, gL, sL, kl_i, kl_l, kl_r, kl_s, kl_m, qI_i, qJ_l, qA_r, qA_s, pI_i, pJ_l, pA_r, pS_s, pM_m, pV_v, c1_i, c1_r, c1_s, c1_m, cS_0, cS_i, cS_l, cS_r, cS_s, cS_m, pN, z_rc_r, zE1, zE2, zE3, true_and, and_true, Nat.zero_add, Nat.reduceAdd, Nat.reduceLeDiff, true_or, or_true, Int.reduceLE, Int.reduceLT, zcmp_l, zcmp_g, zcmp_e, zcmp_le, mo, mf0, mz0, mf1, mz1, mf2, mz2, mf6, mz6, mf10, mz10, mf11, mz11, mf12, mz12, mf13, mz13, mf14, mz14, mf16, mz16, mf17, mz17, mf18, mz18, mf19, mz19, mi3, mi7, mi8, mi9, mi15, mi4, mi5, mi20, ma125, mn125, ma126, mn126, ma127, mn127, ma128, mn128, ma129, mn129, ma130, mn130, ma131, mn131, ma132, mn132, ma133, mn133, ma134, mn134, ma135, mn135, ma136, mn136, ma137, mn137]
    rw [cIf_t ⟨q, by omega, by omega⟩, cIf_f (by omega), cIf_f (by omega)] at hP
    repeat' (with_reducible apply And.intro)
    all_goals first | omega | exact ⟨by omega, by omega⟩ | skip
    rw [h.z (by omega) (by omega), show 40 + i = 16 + 6 * x + i by omega]
    exact hP D Fr.rfl hM
  · refine sX6_of_110 _ _ _ _ _ ?_
    simp only [tX6_of_110, w_ic, w_lc, w_lds, w_ild, w_lld, w_ald, w_ist, w_lst, w_ast, w_iinc, w_iadd, w_isub, w_imul, w_idiv, w_irem, w_iand, w_ior, w_ixor, w_ishl, w_ishr, w_iushr, w_ineg, w_ladd, w_lsub, w_lmul, w_ldiv, w_lrem, w_lcmp, w_i2l, w_l2i, w_dup, w_pop, w_dup2, w_ieq, w_zeq, w_ine, w_zne, w_ilt, w_zlt, w_ige, w_zge, w_igt, w_zgt, w_ile, w_zle, w_cut, w_tsw, zsw, w_iret, w_zret, w_lret, w_vret, w_nret, w_getI, w_getJ, w_getR, w_putI, w_putZ, w_putJ, w_iald, w_zald, w_iast, w_zast, w_alen, w_sI, w_sJ, w_sV, w_vI, w_vJ, w_vV, w_tI, w_mmax, w_mmin, w_mabs, w_lmax, w_acopy, gL, sL, kl_i, kl_l, kl_r, kl_s, kl_m, qI_i, qJ_l, qA_r, qA_s, pI_i, pJ_l, pA_r, pS_s, pM_m, pV_v, c1_i, c1_r, c1_s, c1_m, cS_0, cS_i, cS_l, cS_r, cS_s, cS_m, pN, z_rc_r, zE1, zE2, zE3, true_and, and_true, Nat.zero_add, Nat.reduceAdd, Nat.reduceLeDiff, true_or, or_true, Int.reduceLE, Int.reduceLT, zcmp_l, zcmp_g, zcmp_e, zcmp_le, mo, mf0, mz0, mf1, mz1, mf2, mz2, mf6, mz6, mf10, mz10, mf11, mz11, mf12, mz12, mf13, mz13, mf14, mz14, mf16, mz16, mf17, mz17, mf18, mz18, mf19, mz19, mi3, mi7, mi8, mi9, mi15, mi4, mi5, mi20, ma125, mn125, ma126, mn126, ma127, mn127, ma128, mn128, ma129, mn129, ma130, mn130, ma131, mn131, ma132, mn132, ma133, mn133, ma134, mn134, ma135, mn135, ma136, mn136, ma137, mn137]
    rw [cIf_t ⟨q, by omega, by omega⟩, cIf_t (by omega)] at hP
    exact m_nextOf (Or.inl rfl) h.q w q.1 q.2 fun D' f => hP D' f.s.fr (hM.s f.s)
  · refine sX6_of_117 _ _ _ _ _ ?_
    simp only [tX6_of_117, w_ic, w_lc, w_lds, w_ild, w_lld, w_ald, w_ist, w_lst, w_ast, w_iinc, w_iadd, w_isub, w_imul, w_idiv, w_irem, w_iand, w_ior, w_ixor, w_ishl, w_ishr, w_iushr, w_ineg, w_ladd, w_lsub, w_lmul, w_ldiv, w_lrem, w_lcmp, w_i2l, w_l2i, w_dup, w_pop, w_dup2, w_ieq, w_zeq, w_ine, w_zne, w_ilt, w_zlt, w_ige, w_zge, w_igt, w_zgt, w_ile, w_zle, w_cut, w_tsw, zsw, w_iret, w_zret, w_lret, w_vret, w_nret, w_getI, w_getJ, w_getR, w_putI, w_putZ, w_putJ, w_iald, w_zald, w_iast, w_zast, w_alen, w_sI, w_sJ, w_sV, w_vI, w_vJ, w_vV, w_tI, w_mmax, w_mmin, w_mabs, w_lmax, w_acopy, gL, sL, kl_i, kl_l, kl_r, kl_s, kl_m, qI_i, qJ_l, qA_r, qA_s, pI_i, pJ_l, pA_r, pS_s, pM_m, pV_v, c1_i, c1_r, c1_s, c1_m, cS_0, cS_i, cS_l, cS_r, cS_s, cS_m, pN, z_rc_r, zE1, zE2, zE3, true_and, and_true, Nat.zero_add, Nat.reduceAdd, Nat.reduceLeDiff, true_or, or_true, Int.reduceLE, Int.reduceLT, zcmp_l, zcmp_g, zcmp_e, zcmp_le, mo, mf0, mz0, mf1, mz1, mf2, mz2, mf6, mz6, mf10, mz10, mf11, mz11, mf12, mz12, mf13, mz13, mf14, mz14, mf16, mz16, mf17, mz17, mf18, mz18, mf19, mz19, mi3, mi7, mi8, mi9, mi15, mi4, mi5, mi20, ma125, mn125, ma126, mn126, ma127, mn127, ma128, mn128, ma129, mn129, ma130, mn130, ma131, mn131, ma132, mn132, ma133, mn133, ma134, mn134, ma135, mn135, ma136, mn136, ma137, mn137]
    rw [cIf_t ⟨q, by omega, by omega⟩, cIf_f (by omega), cIf_t (by omega)] at hP
    exact m_loudIn (Or.inl rfl) h.q w q.1 q.2 fun D' f => hP D' f.s.fr (hM.s f.s)
  · refine sX6_of_124 _ _ _ _ _ ?_
    simp only [tX6_of_124, w_ic, w_lc, w_lds, w_ild, w_lld, w_ald, w_ist, w_lst, w_ast, w_iinc, w_iadd, w_isub, w_imul, w_idiv, w_irem, w_iand, w_ior, w_ixor, w_ishl, w_ishr, w_iushr, w_ineg, w_ladd, w_lsub, w_lmul, w_ldiv, w_lrem, w_lcmp, w_i2l, w_l2i, w_dup, w_pop, w_dup2, w_ieq, w_zeq, w_ine, w_zne, w_ilt, w_zlt, w_ige, w_zge, w_igt, w_zgt, w_ile, w_zle, w_cut, w_tsw, zsw, w_iret, w_zret, w_lret, w_vret, w_nret, w_getI, w_getJ, w_getR, w_putI, w_putZ, w_putJ, w_iald, w_zald, w_iast, w_zast, w_alen, w_sI, w_sJ, w_sV, w_vI, w_vJ, w_vV, w_tI, w_mmax, w_mmin, w_mabs, w_lmax, w_acopy, gL, sL, kl_i, kl_l, kl_r, kl_s, kl_m, qI_i, qJ_l, qA_r, qA_s, pI_i, pJ_l, pA_r, pS_s, pM_m, pV_v, c1_i, c1_r, c1_s, c1_m, cS_0, cS_i, cS_l, cS_r, cS_s, cS_m, pN, z_rc_r, zE1, zE2, zE3, true_and, and_true, Nat.zero_add, Nat.reduceAdd, Nat.reduceLeDiff, true_or, or_true, Int.reduceLE, Int.reduceLT, zcmp_l, zcmp_g, zcmp_e, zcmp_le, mo, mf0, mz0, mf1, mz1, mf2, mz2, mf6, mz6, mf10, mz10, mf11, mz11, mf12, mz12, mf13, mz13, mf14, mz14, mf16, mz16, mf17, mz17, mf18, mz18, mf19, mz19, mi3, mi7, mi8, mi9, mi15, mi4, mi5, mi20, ma125, mn125, ma126, mn126, ma127, mn127, ma128, mn128, ma129, mn129, ma130, mn130, ma131, mn131, ma132, mn132, ma133, mn133, ma134, mn134, ma135, mn135, ma136, mn136, ma137, mn137]
    rw [cIf_f (by omega)] at hP
    exact m_bad hM hW hn hP
  · rw [cIf_f (fun w => q w.1)] at hP
    exact m_bad hM hW hn hP
theorem m_about {n i x : Int} {s : Mem} (hW : WS n s) (hn : n < 1000000) : mOK miX6_about [zr 124, zi i, zi x] s (r_about s i x) := by
  intro D P hM hP
  have w := hW.1.1
  have h := hM.1
  have n2 := w.n2
  unfold r_about at hP
  refine e_X6_about ?_
  simp only [tX6_about_0, w_ic, w_lc, w_lds, w_ild, w_lld, w_ald, w_ist, w_lst, w_ast, w_iinc, w_iadd, w_isub, w_imul, w_idiv, w_irem, w_iand, w_ior, w_ixor, w_ishl, w_ishr, w_iushr, w_ineg, w_ladd, w_lsub, w_lmul, w_ldiv, w_lrem, w_lcmp, w_i2l, w_l2i, w_dup, w_pop, w_dup2, w_ieq, w_zeq, w_ine, w_zne, w_ilt, w_zlt, w_ige, w_zge, w_igt, w_zgt, w_ile, w_zle, w_cut, w_tsw, zsw, w_iret, w_zret, w_lret, w_vret, w_nret, w_getI, w_getJ, w_getR, w_putI, w_putZ, w_putJ, w_iald, w_zald, w_iast, w_zast, w_alen, w_sI, w_sJ, w_sV, w_vI, w_vJ, w_vV, w_tI, w_mmax, w_mmin, w_mabs, w_lmax, w_acopy, gL, sL, kl_i, kl_l, kl_r, kl_s, kl_m, qI_i, qJ_l, qA_r, qA_s, pI_i, pJ_l, pA_r, pS_s, pM_m, pV_v, c1_i, c1_r, c1_s, c1_m, cS_0, cS_i, cS_l, cS_r, cS_s, cS_m, pN, z_rc_r, zE1, zE2, zE3, true_and, and_true, Nat.zero_add, Nat.reduceAdd, Nat.reduceLeDiff, true_or, or_true, Int.reduceLE, Int.reduceLT, zcmp_l, zcmp_g, zcmp_e, zcmp_le, mo, mf0, mz0, mf1, mz1, mf2, mz2, mf6, mz6, mf10, mz10, mf11, mz11, mf12, mz12, mf13, mz13, mf14, mz14, mf16, mz16, mf17, mz17, mf18, mz18, mf19, mz19, mi3, mi7, mi8, mi9, mi15, mi4, mi5, mi20, ma125, mn125, ma126, mn126, ma127, mn127, ma128, mn128, ma129, mn129, ma130, mn130, ma131, mn131, ma132, mn132, ma133, mn133, ma134, mn134, ma135, mn135, ma136, mn136, ma137, mn137]
  refine m_isWindow h w.n2 (fun q => ⟨fun w => absurd w (by decide), fun _ => ?_⟩) (fun q => ⟨fun _ => ?_, fun w => absurd rfl w⟩)
  · refine m_in (fun q2 => ⟨fun _ => ⟨fun g => ⟨fun g2 => ?_, fun g2 => ?_⟩, fun g => ?_⟩, fun w => absurd (by decide) w⟩) (fun q2 => ⟨fun w => absurd rfl w, fun _ => ?_⟩)
    · rw [cIf_t ⟨q, q2⟩, cIf_t (by omega)] at hP
      exact m_heardBy (Or.inl rfl) h.q w q.1 q.2 fun D' f => hP D' f.s.fr (hM.s f.s)
    · rw [cIf_t ⟨q, q2⟩, cIf_f (by omega)] at hP
      repeat' (with_reducible apply And.intro)
      all_goals first | omega | exact ⟨by omega, by omega⟩ | skip
      rw [h.z (by omega) (by omega), show 50 + i = 46 + 4 * x + i by omega]
      exact hP D Fr.rfl hM
    · rw [cIf_t ⟨q, q2⟩, cIf_f (by omega)] at hP
      repeat' (with_reducible apply And.intro)
      all_goals first | omega | exact ⟨by omega, by omega⟩ | skip
      rw [h.z (by omega) (by omega), show 46 + i = 46 + 4 * x + i by omega]
      exact hP D Fr.rfl hM
    · rw [cIf_f (fun w => q2 w.2)] at hP
      exact m_bad hM hW hn hP
  · rw [cIf_f (fun w => q w.1)] at hP
    exact m_bad hM hW hn hP
theorem m_rungs {n i x : Int} {s : Mem} (hW : WS n s) (hn : n < 1000000) : mOK miX6_rungs [zr 124, zi i, zi x] s (r_rungs s i x) := by
  intro D P hM hP
  have w := hW.1.1
  have h := hM.1
  have n2 := w.n0
  unfold r_rungs at hP
  refine e_X6_rungs ?_
  simp only [tX6_rungs_0, w_ic, w_lc, w_lds, w_ild, w_lld, w_ald, w_ist, w_lst, w_ast, w_iinc, w_iadd, w_isub, w_imul, w_idiv, w_irem, w_iand, w_ior, w_ixor, w_ishl, w_ishr, w_iushr, w_ineg, w_ladd, w_lsub, w_lmul, w_ldiv, w_lrem, w_lcmp, w_i2l, w_l2i, w_dup, w_pop, w_dup2, w_ieq, w_zeq, w_ine, w_zne, w_ilt, w_zlt, w_ige, w_zge, w_igt, w_zgt, w_ile, w_zle, w_cut, w_tsw, zsw, w_iret, w_zret, w_lret, w_vret, w_nret, w_getI, w_getJ, w_getR, w_putI, w_putZ, w_putJ, w_iald, w_zald, w_iast, w_zast, w_alen, w_sI, w_sJ, w_sV, w_vI, w_vJ, w_vV, w_tI, w_mmax, w_mmin, w_mabs, w_lmax, w_acopy, gL, sL, kl_i, kl_l, kl_r, kl_s, kl_m, qI_i, qJ_l, qA_r, qA_s, pI_i, pJ_l, pA_r, pS_s, pM_m, pV_v, c1_i, c1_r, c1_s, c1_m, cS_0, cS_i, cS_l, cS_r, cS_s, cS_m, pN, z_rc_r, zE1, zE2, zE3, true_and, and_true, Nat.zero_add, Nat.reduceAdd, Nat.reduceLeDiff, true_or, or_true, Int.reduceLE, Int.reduceLT, zcmp_l, zcmp_g, zcmp_e, zcmp_le, mo, mf0, mz0, mf1, mz1, mf2, mz2, mf6, mz6, mf10, mz10, mf11, mz11, mf12, mz12, mf13, mz13, mf14, mz14, mf16, mz16, mf17, mz17, mf18, mz18, mf19, mz19, mi3, mi7, mi8, mi9, mi15, mi4, mi5, mi20, ma125, mn125, ma126, mn126, ma127, mn127, ma128, mn128, ma129, mn129, ma130, mn130, ma131, mn131, ma132, mn132, ma133, mn133, ma134, mn134, ma135, mn135, ma136, mn136, ma137, mn137]
  refine m_isLadder h w.n0 (fun q => ⟨fun w => absurd w (by decide), fun _ => ?_⟩) (fun q => ⟨fun _ => ?_, fun w => absurd rfl w⟩)
  · refine m_in (fun q2 => ⟨fun _ => ⟨fun g => ?_, fun g => ?_⟩, fun w => absurd (by decide) w⟩) (fun q2 => ⟨fun w => absurd rfl w, fun _ => ?_⟩)
    · rw [cIf_t ⟨q, q2⟩] at hP
      repeat' (with_reducible apply And.intro)
      all_goals first | omega | exact ⟨by omega, by omega⟩ | skip
      rw [h.z (by omega) (by omega), show 10 + i = 4 + 6 * x + i by omega]
      exact hP D Fr.rfl hM
    · rw [cIf_t ⟨q, q2⟩] at hP
      repeat' (with_reducible apply And.intro)
      all_goals first | omega | exact ⟨by omega, by omega⟩ | skip
      rw [h.z (by omega) (by omega), show 4 + i = 4 + 6 * x + i by omega]
      exact hP D Fr.rfl hM
    · rw [cIf_f (fun w => q2 w.2)] at hP
      exact m_bad hM hW hn hP
  · rw [cIf_f (fun w => q w.1)] at hP
    exact m_bad hM hW hn hP
theorem m_far {n x y : Int} {s : Mem} (hW : WS n s) (hn : n < 1000000) : mOK miX6_far [zr 124, zi x, zi y] s (r_far s x y) := by
  intro D P hM hP
  have w := hW.1.1
  have h := hM.1
  unfold r_far at hP
  refine e_X6_far ?_
  simp only [tX6_far_0, w_ic, w_lc, w_lds, w_ild, w_lld, w_ald, w_ist, w_lst, w_ast, w_iinc, w_iadd, w_isub, w_imul, w_idiv, w_irem, w_iand, w_ior, w_ixor, w_ishl, w_ishr, w_iushr, w_ineg, w_ladd, w_lsub, w_lmul, w_ldiv, w_lrem, w_lcmp, w_i2l, w_l2i, w_dup, w_pop, w_dup2, w_ieq, w_zeq, w_ine, w_zne, w_ilt, w_zlt, w_ige, w_zge, w_igt, w_zgt, w_ile, w_zle, w_cut, w_tsw, zsw, w_iret, w_zret, w_lret, w_vret, w_nret, w_getI, w_getJ, w_getR, w_putI, w_putZ, w_putJ, w_iald, w_zald, w_iast, w_zast, w_alen, w_sI, w_sJ, w_sV, w_vI, w_vJ, w_vV, w_tI, w_mmax, w_mmin, w_mabs, w_lmax, w_acopy, gL, sL, kl_i, kl_l, kl_r, kl_s, kl_m, qI_i, qJ_l, qA_r, qA_s, pI_i, pJ_l, pA_r, pS_s, pM_m, pV_v, c1_i, c1_r, c1_s, c1_m, cS_0, cS_i, cS_l, cS_r, cS_s, cS_m, pN, z_rc_r, zE1, zE2, zE3, true_and, and_true, Nat.zero_add, Nat.reduceAdd, Nat.reduceLeDiff, true_or, or_true, Int.reduceLE, Int.reduceLT, zcmp_l, zcmp_g, zcmp_e, zcmp_le, mo, mf0, mz0, mf1, mz1, mf2, mz2, mf6, mz6, mf10, mz10, mf11, mz11, mf12, mz12, mf13, mz13, mf14, mz14, mf16, mz16, mf17, mz17, mf18, mz18, mf19, mz19, mi3, mi7, mi8, mi9, mi15, mi4, mi5, mi20, ma125, mn125, ma126, mn126, ma127, mn127, ma128, mn128, ma129, mn129, ma130, mn130, ma131, mn131, ma132, mn132, ma133, mn133, ma134, mn134, ma135, mn135, ma136, mn136, ma137, mn137]
  refine m_isCell (fun q => ⟨fun w => absurd w (by decide), fun _ => ?_⟩) (fun q => ⟨fun _ => ?_, fun w => absurd rfl w⟩)
  · refine m_isCell (fun q2 => ⟨fun _ => ?_, fun w => absurd (by decide) w⟩) (fun q2 => ⟨fun w => absurd rfl w, fun _ => ?_⟩)
    · rw [cIf_t ⟨q, q2⟩] at hP
      refine m_laysAway (S := fun c => c = y) (Or.inl rfl) h.q w.n0 (fun c _ => ⟨fun w => Or.inr ⟨q2.1, w⟩, fun w => w.elim (fun w => by have := q2.1; omega) fun w => w.2⟩) fun D' f he => ?_
      obtain ⟨e1, e2, e3⟩ := he x q
      have hP' := hP D' f.s.fr (hM.s f.s)
      have ed : sD (sOp (s 0)) y x = sd (adjO (sOp (s 0))) (fun c => c = y) x := rfl
      rw [← ed] at e1 e2 e3
      have q0 := q.1
      have q1 := q.2
      rw [e1]
      refine ⟨q0, by omega, fun g => ?_, fun g => ?_⟩
      · unfold zFar at g ⊢
        by_cases e : sD (sOp (s 0)) y x = -1
        · rw [if_pos e] at g; exact absurd rfl g
        · rw [if_neg e]; exact ⟨q0, by omega, hP'⟩
      · unfold zFar at g
        by_cases e : sD (sOp (s 0)) y x = -1
        · dsimp only at hP'
          rw [e] at hP'; exact hP'
        · rw [if_neg e] at g; omega
    · rw [cIf_f (fun w => q2 w.2)] at hP
      exact m_bad hM hW hn hP
  · rw [cIf_f (fun w => q w.1)] at hP
    exact m_bad hM hW hn hP
theorem m_tries {a : Int → Int} {D : Mem} {P : Int → Mem → Prop} (h : yR D 0 a) (hP : ∀ D', (∀ o, o ≠ 125 → D' o = D o) → (∀ j : Int, j < 1092 → D' 125 j = D 125 j) → yQ D' 1092 a → P 0 D') : zC miX6_tries [zr 124] D P := by
  have loop : ∀ (m : Nat) (k : Int) (D1 : Mem), (54 - k).toNat = m → 0 ≤ k → k ≤ 54 → (∀ o, o ≠ 125 → D1 o = D o) → (∀ j : Int, j < 1092 → D1 125 j = D 125 j) → (∀ j, 0 ≤ j → j < k → D1 125 (1092 + j) = a j) → zW miX6_tries P 2 [zr 124, zi k] D1 := by
    intro m
    induction m with
    | zero =>
      intro k D1 hm k0 k1 hf hg hv
      refine sX6_tries_2 _ _ _ _ _ ?_
      simp only [tX6_tries_2, w_ic, w_lc, w_lds, w_ild, w_lld, w_ald, w_ist, w_lst, w_ast, w_iinc, w_iadd, w_isub, w_imul, w_idiv, w_irem, w_iand, w_ior, w_ixor, w_ishl, w_ishr, w_iushr, w_ineg, w_ladd, w_lsub, w_lmul, w_ldiv, w_lrem, w_lcmp, w_i2l, w_l2i, w_dup, w_pop, w_dup2, w_ieq, w_zeq, w_ine, w_zne, w_ilt, w_zlt, w_ige, w_zge, w_igt, w_zgt, w_ile, w_zle, w_cut, w_tsw, zsw, w_iret, w_zret, w_lret, w_vret, w_nret, w_getI, w_getJ, w_getR, w_putI, w_putZ, w_putJ, w_iald, w_zald, w_iast, w_zast, w_alen, w_sI, w_sJ, w_sV, w_vI, w_vJ, w_vV, w_tI, w_mmax, w_mmin, w_mabs, w_lmax, w_acopy, gL, sL, kl_i, kl_l, kl_r, kl_s, kl_m, qI_i, qJ_l, qA_r, qA_s, pI_i, pJ_l, pA_r, pS_s, pM_m, pV_v, c1_i, c1_r, c1_s, c1_m, cS_0, cS_i, cS_l, cS_r, cS_s, cS_m, pN, z_rc_r, zE1, zE2, zE3, true_and, and_true, Nat.zero_add, Nat.reduceAdd, Nat.reduceLeDiff, true_or, or_true, Int.reduceLE, Int.reduceLT, zcmp_l, zcmp_g, zcmp_e, zcmp_le, mo, mf0, mz0, mf1, mz1, mf2, mz2, mf6, mz6, mf10, mz10, mf11, mz11, mf12, mz12, mf13, mz13, mf14, mz14, mf16, mz16, mf17, mz17, mf18, mz18, mf19, mz19, mi3, mi7, mi8, mi9, mi15, mi4, mi5, mi20, ma125, mn125, ma126, mn126, ma127, mn127, ma128, mn128, ma129, mn129, ma130, mn130, ma131, mn131, ma132, mn132, ma133, mn133, ma134, mn134, ma135, mn135, ma136, mn136, ma137, mn137]
      exact ⟨fun _ => hP D1 hf hg fun j p q => hv j p (by omega), fun w => absurd (by omega) w⟩
    | succ m ih =>
      intro k D1 hm k0 k1 hf hg hv
      refine sX6_tries_2 _ _ _ _ _ ?_
      simp only [tX6_tries_2, w_ic, w_lc, w_lds, w_ild, w_lld, w_ald, w_ist, w_lst, w_ast, w_iinc, w_iadd, w_isub, w_imul, w_idiv, w_irem, w_iand, w_ior, w_ixor, w_ishl, w_ishr, w_iushr, w_ineg, w_ladd, w_lsub, w_lmul, w_ldiv, w_lrem, w_lcmp, w_i2l, w_l2i, w_dup, w_pop, w_dup2, w_ieq, w_zeq, w_ine, w_zne, w_ilt, w_zlt, w_ige, w_zge, w_igt, w_zgt, w_ile, w_zle, w_cut, w_tsw, zsw, w_iret, w_zret, w_lret, w_vret, w_nret, w_getI, w_getJ, w_getR, w_putI, w_putZ, w_putJ, w_iald, w_zald, w_iast, w_zast, w_alen, w_sI, w_sJ, w_sV, w_vI, w_vJ, w_vV, w_tI, w_mmax, w_mmin, w_mabs, w_lmax, w_acopy, gL, sL, kl_i, kl_l, kl_r, kl_s, kl_m, qI_i, qJ_l, qA_r, qA_s, pI_i, pJ_l, pA_r, pS_s, pM_m, pV_v, c1_i, c1_r, c1_s, c1_m, cS_0, cS_i, cS_l, cS_r, cS_s, cS_m, pN, z_rc_r, zE1, zE2, zE3, true_and, and_true, Nat.zero_add, Nat.reduceAdd, Nat.reduceLeDiff, true_or, or_true, Int.reduceLE, Int.reduceLT, zcmp_l, zcmp_g, zcmp_e, zcmp_le, mo, mf0, mz0, mf1, mz1, mf2, mz2, mf6, mz6, mf10, mz10, mf11, mz11, mf12, mz12, mf13, mz13, mf14, mz14, mf16, mz16, mf17, mz17, mf18, mz18, mf19, mz19, mi3, mi7, mi8, mi9, mi15, mi4, mi5, mi20, ma125, mn125, ma126, mn126, ma127, mn127, ma128, mn128, ma129, mn129, ma130, mn130, ma131, mn131, ma132, mn132, ma133, mn133, ma134, mn134, ma135, mn135, ma136, mn136, ma137, mn137]
      rw [hg k (by omega), h.z (by omega) (by omega)]
      refine ⟨fun w => absurd w (by omega), fun _ => ?_⟩
      repeat' (with_reducible apply And.intro)
      all_goals first | omega | exact ⟨by omega, by omega⟩ | skip
      refine ih (k + 1) _ (by omega) (by omega) (by omega) (fun o p => by rw [zU_ne p]; exact hf o p) (fun j p => by rw [zU_k (by omega)]; exact hg j p) fun j p q => ?_
      by_cases e : j = k
      · rw [e, zU_s]
      · rw [zU_k (by omega)]; exact hv j p (by omega)
  refine e_X6_tries ?_
  simp only [tX6_tries_0, w_ic, w_lc, w_lds, w_ild, w_lld, w_ald, w_ist, w_lst, w_ast, w_iinc, w_iadd, w_isub, w_imul, w_idiv, w_irem, w_iand, w_ior, w_ixor, w_ishl, w_ishr, w_iushr, w_ineg, w_ladd, w_lsub, w_lmul, w_ldiv, w_lrem, w_lcmp, w_i2l, w_l2i, w_dup, w_pop, w_dup2, w_ieq, w_zeq, w_ine, w_zne, w_ilt, w_zlt, w_ige, w_zge, w_igt, w_zgt, w_ile, w_zle, w_cut, w_tsw, zsw, w_iret, w_zret, w_lret, w_vret, w_nret, w_getI, w_getJ, w_getR, w_putI, w_putZ, w_putJ, w_iald, w_zald, w_iast, w_zast, w_alen, w_sI, w_sJ, w_sV, w_vI, w_vJ, w_vV, w_tI, w_mmax, w_mmin, w_mabs, w_lmax, w_acopy, gL, sL, kl_i, kl_l, kl_r, kl_s, kl_m, qI_i, qJ_l, qA_r, qA_s, pI_i, pJ_l, pA_r, pS_s, pM_m, pV_v, c1_i, c1_r, c1_s, c1_m, cS_0, cS_i, cS_l, cS_r, cS_s, cS_m, pN, z_rc_r, zE1, zE2, zE3, true_and, and_true, Nat.zero_add, Nat.reduceAdd, Nat.reduceLeDiff, true_or, or_true, Int.reduceLE, Int.reduceLT, zcmp_l, zcmp_g, zcmp_e, zcmp_le, mo, mf0, mz0, mf1, mz1, mf2, mz2, mf6, mz6, mf10, mz10, mf11, mz11, mf12, mz12, mf13, mz13, mf14, mz14, mf16, mz16, mf17, mz17, mf18, mz18, mf19, mz19, mi3, mi7, mi8, mi9, mi15, mi4, mi5, mi20, ma125, mn125, ma126, mn126, ma127, mn127, ma128, mn128, ma129, mn129, ma130, mn130, ma131, mn131, ma132, mn132, ma133, mn133, ma134, mn134, ma135, mn135, ma136, mn136, ma137, mn137]
  exact loop _ 0 D rfl (by omega) (by omega) (fun _ _ => rfl) (fun _ _ => rfl) (fun j p q => by omega)
theorem yF.of5 {D D' : Mem} (h : ∀ o, o ≠ 125 → D' o = D o) (g : ∀ j : Int, j < 1092 → D' 125 j = D 125 j) : yF D D' := ⟨yX.of5 h, fun j p => g j (by omega)⟩
theorem m_passT {M : Int} {a : Int → Int} {D : Mem} {P : Int → Mem → Prop} (hq : yQ D 1092 a) (hw : WA M a) (hM : M ≤ 30000) (hP : ∀ D', yF D D' → (∀ o, o ≠ 125 → o ≠ 129 → o ≠ 130 → o ≠ 131 → D' o = D o) → yQ D' 1092 (sPass a) → P (sCt a) D') : zC miX6_passes [zr 124, zi 1092] D P := m_passes (Or.inr (Or.inr rfl)) hq hw hM fun D' f q => hP D' (f.s (by decide)) f.1 q
theorem m_where {n i m : Int} {s : Mem} (hW : WS n s) (hn : n < 1000000) : mOK miX6_where [zr 124, zi i, zi m] s (r_where s i m) := by
  intro D P hM hP
  have w := hW.1.1
  have h := hM.1
  have n0 := w.n0
  have n1 := w.n1
  unfold r_where at hP
  refine e_X6_where ?_
  simp only [tX6_where_0, w_ic, w_lc, w_lds, w_ild, w_lld, w_ald, w_ist, w_lst, w_ast, w_iinc, w_iadd, w_isub, w_imul, w_idiv, w_irem, w_iand, w_ior, w_ixor, w_ishl, w_ishr, w_iushr, w_ineg, w_ladd, w_lsub, w_lmul, w_ldiv, w_lrem, w_lcmp, w_i2l, w_l2i, w_dup, w_pop, w_dup2, w_ieq, w_zeq, w_ine, w_zne, w_ilt, w_zlt, w_ige, w_zge, w_igt, w_zgt, w_ile, w_zle, w_cut, w_tsw, zsw, w_iret, w_zret, w_lret, w_vret, w_nret, w_getI, w_getJ, w_getR, w_putI, w_putZ, w_putJ, w_iald, w_zald, w_iast, w_zast, w_alen, w_sI, w_sJ, w_sV, w_vI, w_vJ, w_vV, w_tI, w_mmax, w_mmin, w_mabs, w_lmax, w_acopy, gL, sL, kl_i, kl_l, kl_r, kl_s, kl_m, qI_i, qJ_l, qA_r, qA_s, pI_i, pJ_l, pA_r, pS_s, pM_m, pV_v, c1_i, c1_r, c1_s, c1_m, cS_0, cS_i, cS_l, cS_r, cS_s, cS_m, pN, z_rc_r, zE1, zE2, zE3, true_and, and_true, Nat.zero_add, Nat.reduceAdd, Nat.reduceLeDiff, true_or, or_true, Int.reduceLE, Int.reduceLT, zcmp_l, zcmp_g, zcmp_e, zcmp_le, mo, mf0, mz0, mf1, mz1, mf2, mz2, mf6, mz6, mf10, mz10, mf11, mz11, mf12, mz12, mf13, mz13, mf14, mz14, mf16, mz16, mf17, mz17, mf18, mz18, mf19, mz19, mi3, mi7, mi8, mi9, mi15, mi4, mi5, mi20, ma125, mn125, ma126, mn126, ma127, mn127, ma128, mn128, ma129, mn129, ma130, mn130, ma131, mn131, ma132, mn132, ma133, mn133, ma134, mn134, ma135, mn135, ma136, mn136, ma137, mn137]
  refine m_isGoer h w.n1 (fun q => ⟨fun w => absurd w (by decide), fun _ => ?_⟩) (fun q => ⟨fun _ => ?_, fun w => absurd rfl w⟩)
  · refine m_in (fun q2 => ⟨fun _ => ?_, fun w => absurd (by decide) w⟩) (fun q2 => ⟨fun w => absurd rfl w, fun _ => ?_⟩)
    · rw [cIf_t ⟨q, q2⟩] at hP
      have loop : ∀ (r k : Nat) (D1 : Mem), m.toNat - k = r → k ≤ m.toNat → yF D D1 → yQ D1 1092 (sPs k (s 0)) → zW miX6_where P 33 [zr 124, zi i, zi m, zi k] D1 := by
        intro r
        induction r with
        | zero =>
          intro k D1 hr hk hf hq
          have e : k = m.toNat := by omega
          have ea := hq (34 + i) (by omega) (by omega)
          rw [sPs_at n0.2 n1.2 q.1 q.2, e] at ea
          refine sX6_where_33 _ _ _ _ _ ?_
          simp only [tX6_where_33, w_ic, w_lc, w_lds, w_ild, w_lld, w_ald, w_ist, w_lst, w_ast, w_iinc, w_iadd, w_isub, w_imul, w_idiv, w_irem, w_iand, w_ior, w_ixor, w_ishl, w_ishr, w_iushr, w_ineg, w_ladd, w_lsub, w_lmul, w_ldiv, w_lrem, w_lcmp, w_i2l, w_l2i, w_dup, w_pop, w_dup2, w_ieq, w_zeq, w_ine, w_zne, w_ilt, w_zlt, w_ige, w_zge, w_igt, w_zgt, w_ile, w_zle, w_cut, w_tsw, zsw, w_iret, w_zret, w_lret, w_vret, w_nret, w_getI, w_getJ, w_getR, w_putI, w_putZ, w_putJ, w_iald, w_zald, w_iast, w_zast, w_alen, w_sI, w_sJ, w_sV, w_vI, w_vJ, w_vV, w_tI, w_mmax, w_mmin, w_mabs, w_lmax, w_acopy, gL, sL, kl_i, kl_l, kl_r, kl_s, kl_m, qI_i, qJ_l, qA_r, qA_s, pI_i, pJ_l, pA_r, pS_s, pM_m, pV_v, c1_i, c1_r, c1_s, c1_m, cS_0, cS_i, cS_l, cS_r, cS_s, cS_m, pN, z_rc_r, zE1, zE2, zE3, true_and, and_true, Nat.zero_add, Nat.reduceAdd, Nat.reduceLeDiff, true_or, or_true, Int.reduceLE, Int.reduceLT, zcmp_l, zcmp_g, zcmp_e, zcmp_le, mo, mf0, mz0, mf1, mz1, mf2, mz2, mf6, mz6, mf10, mz10, mf11, mz11, mf12, mz12, mf13, mz13, mf14, mz14, mf16, mz16, mf17, mz17, mf18, mz18, mf19, mz19, mi3, mi7, mi8, mi9, mi15, mi4, mi5, mi20, ma125, mn125, ma126, mn126, ma127, mn127, ma128, mn128, ma129, mn129, ma130, mn130, ma131, mn131, ma132, mn132, ma133, mn133, ma134, mn134, ma135, mn135, ma136, mn136, ma137, mn137]
          refine ⟨fun _ => ?_, fun w => absurd (by omega) w⟩
          repeat' (with_reducible apply And.intro)
          all_goals first | omega | exact ⟨by omega, by omega⟩ | skip
          rw [show 1126 + i = 1092 + (34 + i) by omega, ea]
          exact hP D1 hf.fr (hM.s hf)
        | succ r ih =>
          intro k D1 hr hk hf hq
          refine sX6_where_33 _ _ _ _ _ ?_
          simp only [tX6_where_33, w_ic, w_lc, w_lds, w_ild, w_lld, w_ald, w_ist, w_lst, w_ast, w_iinc, w_iadd, w_isub, w_imul, w_idiv, w_irem, w_iand, w_ior, w_ixor, w_ishl, w_ishr, w_iushr, w_ineg, w_ladd, w_lsub, w_lmul, w_ldiv, w_lrem, w_lcmp, w_i2l, w_l2i, w_dup, w_pop, w_dup2, w_ieq, w_zeq, w_ine, w_zne, w_ilt, w_zlt, w_ige, w_zge, w_igt, w_zgt, w_ile, w_zle, w_cut, w_tsw, zsw, w_iret, w_zret, w_lret, w_vret, w_nret, w_getI, w_getJ, w_getR, w_putI, w_putZ, w_putJ, w_iald, w_zald, w_iast, w_zast, w_alen, w_sI, w_sJ, w_sV, w_vI, w_vJ, w_vV, w_tI, w_mmax, w_mmin, w_mabs, w_lmax, w_acopy, gL, sL, kl_i, kl_l, kl_r, kl_s, kl_m, qI_i, qJ_l, qA_r, qA_s, pI_i, pJ_l, pA_r, pS_s, pM_m, pV_v, c1_i, c1_r, c1_s, c1_m, cS_0, cS_i, cS_l, cS_r, cS_s, cS_m, pN, z_rc_r, zE1, zE2, zE3, true_and, and_true, Nat.zero_add, Nat.reduceAdd, Nat.reduceLeDiff, true_or, or_true, Int.reduceLE, Int.reduceLT, zcmp_l, zcmp_g, zcmp_e, zcmp_le, mo, mf0, mz0, mf1, mz1, mf2, mz2, mf6, mz6, mf10, mz10, mf11, mz11, mf12, mz12, mf13, mz13, mf14, mz14, mf16, mz16, mf17, mz17, mf18, mz18, mf19, mz19, mi3, mi7, mi8, mi9, mi15, mi4, mi5, mi20, ma125, mn125, ma126, mn126, ma127, mn127, ma128, mn128, ma129, mn129, ma130, mn130, ma131, mn131, ma132, mn132, ma133, mn133, ma134, mn134, ma135, mn135, ma136, mn136, ma137, mn137]
          refine ⟨fun w => absurd w (by omega), fun _ => ?_⟩
          exact m_passT hq (sPs_wa w (by decide) k) (by omega) fun D2 f2 _ q2 => ⟨⟨by omega, by omega⟩, ih (k + 1) D2 (by omega) (by omega) (hf.trans f2) q2⟩
      exact m_tries h fun D' f g hq => loop _ 0 D' rfl (by omega) (yF.of5 f g) hq
    · rw [cIf_f (fun w => q2 w.2)] at hP
      exact m_bad hM hW hn hP
  · rw [cIf_f (fun w => q w.1)] at hP
    exact m_bad hM hW hn hP
theorem m_laysTwo {n i j : Int} {D s : Mem} {P : Int → Mem → Prop} (hM : yS D s) (hW : WS n s) (i0 : 0 ≤ i ∧ i < s 0 1) (j0 : 0 ≤ j ∧ j < s 0 1) (hP : ∀ D', yF D D' → (∀ m : Nat, m ≤ 60 → D' 132 m = sAt (s 0) i m) → (∀ m : Nat, m ≤ 60 → D' 133 m = sAt (s 0) j m) → P 0 D') : zC miX6_laysTwo [zr 124, zi i, zi j] D P := by
  have w := hW.1.1
  have h := hM.1
  have n0 := w.n0
  have n1 := w.n1
  have loop : ∀ (r k : Nat) (D1 : Mem), 61 - k = r → k ≤ 61 → yF D D1 → yQ D1 1092 (sPs k (s 0)) → (∀ m : Nat, m < k → D1 132 m = sAt (s 0) i m ∧ D1 133 m = sAt (s 0) j m) → zW miX6_laysTwo P 6 [zr 124, zi i, zi j, zi k] D1 := by
    intro r
    induction r with
    | zero =>
      intro k D1 hr hk hf hq hv
      refine sX6_laysTwo_6 _ _ _ _ _ ?_
      simp only [tX6_laysTwo_6, w_ic, w_lc, w_lds, w_ild, w_lld, w_ald, w_ist, w_lst, w_ast, w_iinc, w_iadd, w_isub, w_imul, w_idiv, w_irem, w_iand, w_ior, w_ixor, w_ishl, w_ishr, w_iushr, w_ineg, w_ladd, w_lsub, w_lmul, w_ldiv, w_lrem, w_lcmp, w_i2l, w_l2i, w_dup, w_pop, w_dup2, w_ieq, w_zeq, w_ine, w_zne, w_ilt, w_zlt, w_ige, w_zge, w_igt, w_zgt, w_ile, w_zle, w_cut, w_tsw, zsw, w_iret, w_zret, w_lret, w_vret, w_nret, w_getI, w_getJ, w_getR, w_putI, w_putZ, w_putJ, w_iald, w_zald, w_iast, w_zast, w_alen, w_sI, w_sJ, w_sV, w_vI, w_vJ, w_vV, w_tI, w_mmax, w_mmin, w_mabs, w_lmax, w_acopy, gL, sL, kl_i, kl_l, kl_r, kl_s, kl_m, qI_i, qJ_l, qA_r, qA_s, pI_i, pJ_l, pA_r, pS_s, pM_m, pV_v, c1_i, c1_r, c1_s, c1_m, cS_0, cS_i, cS_l, cS_r, cS_s, cS_m, pN, z_rc_r, zE1, zE2, zE3, true_and, and_true, Nat.zero_add, Nat.reduceAdd, Nat.reduceLeDiff, true_or, or_true, Int.reduceLE, Int.reduceLT, zcmp_l, zcmp_g, zcmp_e, zcmp_le, mo, mf0, mz0, mf1, mz1, mf2, mz2, mf6, mz6, mf10, mz10, mf11, mz11, mf12, mz12, mf13, mz13, mf14, mz14, mf16, mz16, mf17, mz17, mf18, mz18, mf19, mz19, mi3, mi7, mi8, mi9, mi15, mi4, mi5, mi20, ma125, mn125, ma126, mn126, ma127, mn127, ma128, mn128, ma129, mn129, ma130, mn130, ma131, mn131, ma132, mn132, ma133, mn133, ma134, mn134, ma135, mn135, ma136, mn136, ma137, mn137]
      exact ⟨fun _ => hP D1 hf (fun m hm => (hv m (by omega)).1) (fun m hm => (hv m (by omega)).2), fun w => absurd (by omega) w⟩
    | succ r ih =>
      intro k D1 hr hk hf hq hv
      have ei := hq (34 + i) (by omega) (by omega)
      rw [sPs_at n0.2 n1.2 i0.1 i0.2] at ei
      have ej := hq (34 + j) (by omega) (by omega)
      rw [sPs_at n0.2 n1.2 j0.1 j0.2] at ej
      refine sX6_laysTwo_6 _ _ _ _ _ ?_
      simp only [tX6_laysTwo_6, w_ic, w_lc, w_lds, w_ild, w_lld, w_ald, w_ist, w_lst, w_ast, w_iinc, w_iadd, w_isub, w_imul, w_idiv, w_irem, w_iand, w_ior, w_ixor, w_ishl, w_ishr, w_iushr, w_ineg, w_ladd, w_lsub, w_lmul, w_ldiv, w_lrem, w_lcmp, w_i2l, w_l2i, w_dup, w_pop, w_dup2, w_ieq, w_zeq, w_ine, w_zne, w_ilt, w_zlt, w_ige, w_zge, w_igt, w_zgt, w_ile, w_zle, w_cut, w_tsw, zsw, w_iret, w_zret, w_lret, w_vret, w_nret, w_getI, w_getJ, w_getR, w_putI, w_putZ, w_putJ, w_iald, w_zald, w_iast, w_zast, w_alen, w_sI, w_sJ, w_sV, w_vI, w_vJ, w_vV, w_tI, w_mmax, w_mmin, w_mabs, w_lmax, w_acopy, gL, sL, kl_i, kl_l, kl_r, kl_s, kl_m, qI_i, qJ_l, qA_r, qA_s, pI_i, pJ_l, pA_r, pS_s, pM_m, pV_v, c1_i, c1_r, c1_s, c1_m, cS_0, cS_i, cS_l, cS_r, cS_s, cS_m, pN, z_rc_r, zE1, zE2, zE3, true_and, and_true, Nat.zero_add, Nat.reduceAdd, Nat.reduceLeDiff, true_or, or_true, Int.reduceLE, Int.reduceLT, zcmp_l, zcmp_g, zcmp_e, zcmp_le, mo, mf0, mz0, mf1, mz1, mf2, mz2, mf6, mz6, mf10, mz10, mf11, mz11, mf12, mz12, mf13, mz13, mf14, mz14, mf16, mz16, mf17, mz17, mf18, mz18, mf19, mz19, mi3, mi7, mi8, mi9, mi15, mi4, mi5, mi20, ma125, mn125, ma126, mn126, ma127, mn127, ma128, mn128, ma129, mn129, ma130, mn130, ma131, mn131, ma132, mn132, ma133, mn133, ma134, mn134, ma135, mn135, ma136, mn136, ma137, mn137]
      rw [zU_o (by decide), show 1126 + i = 1092 + (34 + i) by omega, show 1126 + j = 1092 + (34 + j) by omega, ei, ej]
      refine ⟨fun w => absurd w (by omega), fun _ => ?_⟩
      repeat' (with_reducible apply And.intro)
      all_goals first | omega | exact ⟨by omega, by omega⟩ | skip
      refine m_passT (D := zU (zU D1 132 k (sAt (s 0) i k)) 133 k (sAt (s 0) j k)) (a := sPs k (s 0)) ?_ (sPs_wa w (by decide) k) (by omega) fun D2 f2 g2 q2 => ⟨⟨by omega, by omega⟩, ih (k + 1) D2 (by omega) (by omega) ((hf.trans ((yF.up (by decide)).trans (yF.up (by decide)))).trans f2) q2 fun m hm => ?_⟩
      · unfold yQ
        rw [zU_ne (by decide), zU_ne (by decide)]
        exact hq
      · rw [g2 132 (by decide) (by decide) (by decide) (by decide), g2 133 (by decide) (by decide) (by decide) (by decide), zU_o (by decide)]
        by_cases e : m = k
        · rw [e, zU_s, zU_s]
          exact ⟨rfl, rfl⟩
        · rw [zU_k (by omega), zU_k (by omega), zU_o (by decide)]
          exact hv m (by omega)
  refine e_X6_laysTwo ?_
  simp only [tX6_laysTwo_0, w_ic, w_lc, w_lds, w_ild, w_lld, w_ald, w_ist, w_lst, w_ast, w_iinc, w_iadd, w_isub, w_imul, w_idiv, w_irem, w_iand, w_ior, w_ixor, w_ishl, w_ishr, w_iushr, w_ineg, w_ladd, w_lsub, w_lmul, w_ldiv, w_lrem, w_lcmp, w_i2l, w_l2i, w_dup, w_pop, w_dup2, w_ieq, w_zeq, w_ine, w_zne, w_ilt, w_zlt, w_ige, w_zge, w_igt, w_zgt, w_ile, w_zle, w_cut, w_tsw, zsw, w_iret, w_zret, w_lret, w_vret, w_nret, w_getI, w_getJ, w_getR, w_putI, w_putZ, w_putJ, w_iald, w_zald, w_iast, w_zast, w_alen, w_sI, w_sJ, w_sV, w_vI, w_vJ, w_vV, w_tI, w_mmax, w_mmin, w_mabs, w_lmax, w_acopy, gL, sL, kl_i, kl_l, kl_r, kl_s, kl_m, qI_i, qJ_l, qA_r, qA_s, pI_i, pJ_l, pA_r, pS_s, pM_m, pV_v, c1_i, c1_r, c1_s, c1_m, cS_0, cS_i, cS_l, cS_r, cS_s, cS_m, pN, z_rc_r, zE1, zE2, zE3, true_and, and_true, Nat.zero_add, Nat.reduceAdd, Nat.reduceLeDiff, true_or, or_true, Int.reduceLE, Int.reduceLT, zcmp_l, zcmp_g, zcmp_e, zcmp_le, mo, mf0, mz0, mf1, mz1, mf2, mz2, mf6, mz6, mf10, mz10, mf11, mz11, mf12, mz12, mf13, mz13, mf14, mz14, mf16, mz16, mf17, mz17, mf18, mz18, mf19, mz19, mi3, mi7, mi8, mi9, mi15, mi4, mi5, mi20, ma125, mn125, ma126, mn126, ma127, mn127, ma128, mn128, ma129, mn129, ma130, mn130, ma131, mn131, ma132, mn132, ma133, mn133, ma134, mn134, ma135, mn135, ma136, mn136, ma137, mn137]
  exact m_tries h fun D' f g hq => loop 61 0 D' rfl (by omega) (yF.of5 f g) hq (fun m hm => by omega)
theorem m_meetBy {f g : Nat → Int} {x y l : Int} {D : Mem} {P : Int → Mem → Prop} (hf : ∀ m : Nat, m ≤ 60 → D 132 m = f m) (hg : ∀ m : Nat, m ≤ 60 → D 133 m = g m) (x0 : 0 ≤ x) (x1 : x ≤ 100) (y0 : 0 ≤ y) (y1 : y ≤ 100) (l0 : 0 ≤ l) (l1 : l ≤ 60) (hP : P (zFar (zFst (sMt f g x y) (l + 1).toNat)) D) : zC miX6_meetBy [zr 124, zi x, zi y, zi l] D P := by
  have loop : ∀ (r : Nat) (t : Int), (l + 1 - t).toNat = r → 0 ≤ t → t ≤ l + 1 → (∀ u, 0 ≤ u → u < t → ¬ sMt f g x y u) → zW miX6_meetBy P 3 [zr 124, zi x, zi y, zi l, zi t] D := by
    intro r
    induction r with
    | zero =>
      intro t hr t0 t1 hn
      have e : zFst (sMt f g x y) (l + 1).toNat = -1 := zFst_no fun u u0 u1 => hn u u0 (by omega)
      rw [e] at hP
      refine sX6_meetBy_3 _ _ _ _ _ ?_
      simp only [tX6_meetBy_3, w_ic, w_lc, w_lds, w_ild, w_lld, w_ald, w_ist, w_lst, w_ast, w_iinc, w_iadd, w_isub, w_imul, w_idiv, w_irem, w_iand, w_ior, w_ixor, w_ishl, w_ishr, w_iushr, w_ineg, w_ladd, w_lsub, w_lmul, w_ldiv, w_lrem, w_lcmp, w_i2l, w_l2i, w_dup, w_pop, w_dup2, w_ieq, w_zeq, w_ine, w_zne, w_ilt, w_zlt, w_ige, w_zge, w_igt, w_zgt, w_ile, w_zle, w_cut, w_tsw, zsw, w_iret, w_zret, w_lret, w_vret, w_nret, w_getI, w_getJ, w_getR, w_putI, w_putZ, w_putJ, w_iald, w_zald, w_iast, w_zast, w_alen, w_sI, w_sJ, w_sV, w_vI, w_vJ, w_vV, w_tI, w_mmax, w_mmin, w_mabs, w_lmax, w_acopy, gL, sL, kl_i, kl_l, kl_r, kl_s, kl_m, qI_i, qJ_l, qA_r, qA_s, pI_i, pJ_l, pA_r, pS_s, pM_m, pV_v, c1_i, c1_r, c1_s, c1_m, cS_0, cS_i, cS_l, cS_r, cS_s, cS_m, pN, z_rc_r, zE1, zE2, zE3, true_and, and_true, Nat.zero_add, Nat.reduceAdd, Nat.reduceLeDiff, true_or, or_true, Int.reduceLE, Int.reduceLT, zcmp_l, zcmp_g, zcmp_e, zcmp_le, mo, mf0, mz0, mf1, mz1, mf2, mz2, mf6, mz6, mf10, mz10, mf11, mz11, mf12, mz12, mf13, mz13, mf14, mz14, mf16, mz16, mf17, mz17, mf18, mz18, mf19, mz19, mi3, mi7, mi8, mi9, mi15, mi4, mi5, mi20, ma125, mn125, ma126, mn126, ma127, mn127, ma128, mn128, ma129, mn129, ma130, mn130, ma131, mn131, ma132, mn132, ma133, mn133, ma134, mn134, ma135, mn135, ma136, mn136, ma137, mn137]
      exact ⟨fun _ => hP, fun w => absurd (by omega) w⟩
    | succ r ih =>
      intro t hr t0 t1 hn
      have e1 := hf (t - x).toNat (by omega)
      have e2 := hg (t - y).toNat (by omega)
      have fin : ∀ u v : Int, u = f (t - x).toNat → v = g (t - y).toNat → (¬ u = v → zR (t + 1) ∧ zW miX6_meetBy P 3 [zr 124, zi x, zi y, zi l, zi (t + 1)] D) ∧ (¬ ¬ u = v → P t D) := by
        intro u v hu hv
        subst hu
        subst hv
        refine ⟨fun q => ⟨⟨by omega, by omega⟩, ih (t + 1) (by omega) (by omega) (by omega) fun u u0 u1 => ?_⟩, fun q => ?_⟩
        · by_cases e : u = t
          · rw [e]; exact q
          · exact hn u u0 (by omega)
        · have e : zFst (sMt f g x y) (l + 1).toNat = t := zFst_of t0 (Classical.not_not.mp q) hn (by omega)
          rw [e] at hP
          unfold zFar at hP
          rw [if_neg (by omega)] at hP
          exact hP
      refine sX6_meetBy_3 _ _ _ _ _ ?_
      simp only [tX6_meetBy_3, w_ic, w_lc, w_lds, w_ild, w_lld, w_ald, w_ist, w_lst, w_ast, w_iinc, w_iadd, w_isub, w_imul, w_idiv, w_irem, w_iand, w_ior, w_ixor, w_ishl, w_ishr, w_iushr, w_ineg, w_ladd, w_lsub, w_lmul, w_ldiv, w_lrem, w_lcmp, w_i2l, w_l2i, w_dup, w_pop, w_dup2, w_ieq, w_zeq, w_ine, w_zne, w_ilt, w_zlt, w_ige, w_zge, w_igt, w_zgt, w_ile, w_zle, w_cut, w_tsw, zsw, w_iret, w_zret, w_lret, w_vret, w_nret, w_getI, w_getJ, w_getR, w_putI, w_putZ, w_putJ, w_iald, w_zald, w_iast, w_zast, w_alen, w_sI, w_sJ, w_sV, w_vI, w_vJ, w_vV, w_tI, w_mmax, w_mmin, w_mabs, w_lmax, w_acopy, gL, sL, kl_i, kl_l, kl_r, kl_s, kl_m, qI_i, qJ_l, qA_r, qA_s, pI_i, pJ_l, pA_r, pS_s, pM_m, pV_v, c1_i, c1_r, c1_s, c1_m, cS_0, cS_i, cS_l, cS_r, cS_s, cS_m, pN, z_rc_r, zE1, zE2, zE3, true_and, and_true, Nat.zero_add, Nat.reduceAdd, Nat.reduceLeDiff, true_or, or_true, Int.reduceLE, Int.reduceLT, zcmp_l, zcmp_g, zcmp_e, zcmp_le, mo, mf0, mz0, mf1, mz1, mf2, mz2, mf6, mz6, mf10, mz10, mf11, mz11, mf12, mz12, mf13, mz13, mf14, mz14, mf16, mz16, mf17, mz17, mf18, mz18, mf19, mz19, mi3, mi7, mi8, mi9, mi15, mi4, mi5, mi20, ma125, mn125, ma126, mn126, ma127, mn127, ma128, mn128, ma129, mn129, ma130, mn130, ma131, mn131, ma132, mn132, ma133, mn133, ma134, mn134, ma135, mn135, ma136, mn136, ma137, mn137]
      refine ⟨fun w => absurd w (by omega), fun _ => ⟨fun q => ?_, fun q => ?_⟩⟩
      · rw [show ((t - x).toNat : Int) = t - x by omega] at e1
        refine ⟨⟨by omega, by omega⟩, by omega, by omega, fun q2 => ?_, fun q2 => ?_⟩
        · rw [show ((t - y).toNat : Int) = t - y by omega] at e2
          exact ⟨⟨by omega, by omega⟩, by omega, by omega, fin _ _ e1 e2⟩
        · rw [show ((t - y).toNat : Int) = 0 by omega] at e2
          exact fin _ _ e1 e2
      · rw [show ((t - x).toNat : Int) = 0 by omega] at e1
        refine ⟨fun q2 => ?_, fun q2 => ?_⟩
        · rw [show ((t - y).toNat : Int) = t - y by omega] at e2
          exact ⟨⟨by omega, by omega⟩, by omega, by omega, fin _ _ e1 e2⟩
        · rw [show ((t - y).toNat : Int) = 0 by omega] at e2
          exact fin _ _ e1 e2
  refine e_X6_meetBy ?_
  simp only [tX6_meetBy_0, w_ic, w_lc, w_lds, w_ild, w_lld, w_ald, w_ist, w_lst, w_ast, w_iinc, w_iadd, w_isub, w_imul, w_idiv, w_irem, w_iand, w_ior, w_ixor, w_ishl, w_ishr, w_iushr, w_ineg, w_ladd, w_lsub, w_lmul, w_ldiv, w_lrem, w_lcmp, w_i2l, w_l2i, w_dup, w_pop, w_dup2, w_ieq, w_zeq, w_ine, w_zne, w_ilt, w_zlt, w_ige, w_zge, w_igt, w_zgt, w_ile, w_zle, w_cut, w_tsw, zsw, w_iret, w_zret, w_lret, w_vret, w_nret, w_getI, w_getJ, w_getR, w_putI, w_putZ, w_putJ, w_iald, w_zald, w_iast, w_zast, w_alen, w_sI, w_sJ, w_sV, w_vI, w_vJ, w_vV, w_tI, w_mmax, w_mmin, w_mabs, w_lmax, w_acopy, gL, sL, kl_i, kl_l, kl_r, kl_s, kl_m, qI_i, qJ_l, qA_r, qA_s, pI_i, pJ_l, pA_r, pS_s, pM_m, pV_v, c1_i, c1_r, c1_s, c1_m, cS_0, cS_i, cS_l, cS_r, cS_s, cS_m, pN, z_rc_r, zE1, zE2, zE3, true_and, and_true, Nat.zero_add, Nat.reduceAdd, Nat.reduceLeDiff, true_or, or_true, Int.reduceLE, Int.reduceLT, zcmp_l, zcmp_g, zcmp_e, zcmp_le, mo, mf0, mz0, mf1, mz1, mf2, mz2, mf6, mz6, mf10, mz10, mf11, mz11, mf12, mz12, mf13, mz13, mf14, mz14, mf16, mz16, mf17, mz17, mf18, mz18, mf19, mz19, mi3, mi7, mi8, mi9, mi15, mi4, mi5, mi20, ma125, mn125, ma126, mn126, ma127, mn127, ma128, mn128, ma129, mn129, ma130, mn130, ma131, mn131, ma132, mn132, ma133, mn133, ma134, mn134, ma135, mn135, ma136, mn136, ma137, mn137]
  exact loop _ 0 rfl (by omega) (by omega) (fun u u0 u1 => by omega)
theorem m_meet {n i j : Int} {s : Mem} (hW : WS n s) (hn : n < 1000000) : mOK miX6_meet [zr 124, zi i, zi j] s (r_meet s i j) := by
  intro D P hM hP
  have w := hW.1.1
  have h := hM.1
  unfold r_meet at hP
  have bad : ¬ zTwo s i j → zC miX6_bad [zr 124, zi (-2)] D P := by
    intro q
    rw [cIf_f q] at hP
    exact m_bad hM hW hn hP
  refine e_X6_meet ?_
  simp only [tX6_meet_0, w_ic, w_lc, w_lds, w_ild, w_lld, w_ald, w_ist, w_lst, w_ast, w_iinc, w_iadd, w_isub, w_imul, w_idiv, w_irem, w_iand, w_ior, w_ixor, w_ishl, w_ishr, w_iushr, w_ineg, w_ladd, w_lsub, w_lmul, w_ldiv, w_lrem, w_lcmp, w_i2l, w_l2i, w_dup, w_pop, w_dup2, w_ieq, w_zeq, w_ine, w_zne, w_ilt, w_zlt, w_ige, w_zge, w_igt, w_zgt, w_ile, w_zle, w_cut, w_tsw, zsw, w_iret, w_zret, w_lret, w_vret, w_nret, w_getI, w_getJ, w_getR, w_putI, w_putZ, w_putJ, w_iald, w_zald, w_iast, w_zast, w_alen, w_sI, w_sJ, w_sV, w_vI, w_vJ, w_vV, w_tI, w_mmax, w_mmin, w_mabs, w_lmax, w_acopy, gL, sL, kl_i, kl_l, kl_r, kl_s, kl_m, qI_i, qJ_l, qA_r, qA_s, pI_i, pJ_l, pA_r, pS_s, pM_m, pV_v, c1_i, c1_r, c1_s, c1_m, cS_0, cS_i, cS_l, cS_r, cS_s, cS_m, pN, z_rc_r, zE1, zE2, zE3, true_and, and_true, Nat.zero_add, Nat.reduceAdd, Nat.reduceLeDiff, true_or, or_true, Int.reduceLE, Int.reduceLT, zcmp_l, zcmp_g, zcmp_e, zcmp_le, mo, mf0, mz0, mf1, mz1, mf2, mz2, mf6, mz6, mf10, mz10, mf11, mz11, mf12, mz12, mf13, mz13, mf14, mz14, mf16, mz16, mf17, mz17, mf18, mz18, mf19, mz19, mi3, mi7, mi8, mi9, mi15, mi4, mi5, mi20, ma125, mn125, ma126, mn126, ma127, mn127, ma128, mn128, ma129, mn129, ma130, mn130, ma131, mn131, ma132, mn132, ma133, mn133, ma134, mn134, ma135, mn135, ma136, mn136, ma137, mn137]
  refine m_isGoer h w.n1 (fun q => ⟨fun w => absurd w (by decide), fun _ => ?_⟩) (fun q => ⟨fun _ => bad fun w => q w.2.1, fun w => absurd rfl w⟩)
  refine m_isGoer h w.n1 (fun q2 => ⟨fun w => absurd w (by decide), fun _ => ⟨fun q3 => ?_, fun q3 => bad fun w => q3 w.1⟩⟩) (fun q2 => ⟨fun _ => bad fun w => q2 w.2.2, fun w => absurd rfl w⟩)
  rw [cIf_t ⟨q3, q, q2⟩] at hP
  refine m_laysTwo hM hW q q2 fun D' f h1 h2 => ?_
  refine m_meetBy h1 h2 (by decide) (by decide) (by decide) (by decide) (by decide) (by decide) ?_
  have hP' := hP D' f.fr (hM.s f)
  dsimp only at hP'
  have z61 : ((60 : Int) + 1).toNat = 61 := rfl
  rw [z61]
  rcases zFst_spec (p := sMt (sAt (s 0) i) (sAt (s 0) j) 0 0) 61 with ⟨e, _⟩ | ⟨e0, e1, _⟩
  · rw [e] at hP' ⊢
    exact ⟨fun g => absurd rfl g, fun _ => hP'⟩
  · unfold zFar
    rw [if_neg (by omega)]
    exact ⟨fun _ => hP', fun g => by omega⟩
theorem m_waits {n i j x : Int} {s : Mem} (hW : WS n s) (hn : n < 1000000) : mOK miX6_waits [zr 124, zi i, zi j, zi x] s (r_waits s i j x) := by
  intro D P hM hP
  have w := hW.1.1
  have h := hM.1
  unfold r_waits at hP
  have bad : ¬ (zTwo s i j ∧ 0 ≤ x ∧ x ≤ 1) → zC miX6_bad [zr 124, zi (-2)] D P := by
    intro q
    rw [cIf_f q] at hP
    exact m_bad hM hW hn hP
  refine e_X6_waits ?_
  simp only [tX6_waits_0, w_ic, w_lc, w_lds, w_ild, w_lld, w_ald, w_ist, w_lst, w_ast, w_iinc, w_iadd, w_isub, w_imul, w_idiv, w_irem, w_iand, w_ior, w_ixor, w_ishl, w_ishr, w_iushr, w_ineg, w_ladd, w_lsub, w_lmul, w_ldiv, w_lrem, w_lcmp, w_i2l, w_l2i, w_dup, w_pop, w_dup2, w_ieq, w_zeq, w_ine, w_zne, w_ilt, w_zlt, w_ige, w_zge, w_igt, w_zgt, w_ile, w_zle, w_cut, w_tsw, zsw, w_iret, w_zret, w_lret, w_vret, w_nret, w_getI, w_getJ, w_getR, w_putI, w_putZ, w_putJ, w_iald, w_zald, w_iast, w_zast, w_alen, w_sI, w_sJ, w_sV, w_vI, w_vJ, w_vV, w_tI, w_mmax, w_mmin, w_mabs, w_lmax, w_acopy, gL, sL, kl_i, kl_l, kl_r, kl_s, kl_m, qI_i, qJ_l, qA_r, qA_s, pI_i, pJ_l, pA_r, pS_s, pM_m, pV_v, c1_i, c1_r, c1_s, c1_m, cS_0, cS_i, cS_l, cS_r, cS_s, cS_m, pN, z_rc_r, zE1, zE2, zE3, true_and, and_true, Nat.zero_add, Nat.reduceAdd, Nat.reduceLeDiff, true_or, or_true, Int.reduceLE, Int.reduceLT, zcmp_l, zcmp_g, zcmp_e, zcmp_le, mo, mf0, mz0, mf1, mz1, mf2, mz2, mf6, mz6, mf10, mz10, mf11, mz11, mf12, mz12, mf13, mz13, mf14, mz14, mf16, mz16, mf17, mz17, mf18, mz18, mf19, mz19, mi3, mi7, mi8, mi9, mi15, mi4, mi5, mi20, ma125, mn125, ma126, mn126, ma127, mn127, ma128, mn128, ma129, mn129, ma130, mn130, ma131, mn131, ma132, mn132, ma133, mn133, ma134, mn134, ma135, mn135, ma136, mn136, ma137, mn137]
  refine m_isGoer h w.n1 (fun q => ⟨fun w => absurd w (by decide), fun _ => ?_⟩) (fun q => ⟨fun _ => bad fun w => q w.1.2.1, fun w => absurd rfl w⟩)
  refine m_isGoer h w.n1 (fun q2 => ⟨fun w => absurd w (by decide), fun _ => ⟨fun q3 => bad fun w => w.1.1 q3, fun q3 => ?_⟩⟩) (fun q2 => ⟨fun _ => bad fun w => q2 w.1.2.2, fun w => absurd rfl w⟩)
  refine m_in (fun q4 => ⟨fun _ => ?_, fun w => absurd (by decide) w⟩) (fun q4 => ⟨fun w => absurd rfl w, fun _ => bad fun w => q4 w.2⟩)
  rw [cIf_t ⟨⟨q3, q, q2⟩, q4⟩] at hP
  refine m_laysTwo hM hW q q2 fun D' f h1 h2 => ?_
  have hP' := hP D' f.fr (hM.s f)
  dsimp only at hP'
  have loop : ∀ (r : Nat) (t : Int), (21 - t).toNat = r → 0 ≤ t → t ≤ 21 → (∀ u, 0 ≤ u → u < t → ¬ (zFst (sMt (sAt (s 0) i) (sAt (s 0) j) u 0) 61 ≠ -1 ↔ x = 1)) → zW miX6_waits P 47 [zr 124, zi i, zi j, zi x, zi t] D' := by
    intro r
    induction r with
    | zero =>
      intro t hr t0 t1 hn2
      rw [zFst_no fun u u0 u1 => hn2 u u0 (by omega)] at hP'
      refine sX6_waits_47 _ _ _ _ _ ?_
      simp only [tX6_waits_47, w_ic, w_lc, w_lds, w_ild, w_lld, w_ald, w_ist, w_lst, w_ast, w_iinc, w_iadd, w_isub, w_imul, w_idiv, w_irem, w_iand, w_ior, w_ixor, w_ishl, w_ishr, w_iushr, w_ineg, w_ladd, w_lsub, w_lmul, w_ldiv, w_lrem, w_lcmp, w_i2l, w_l2i, w_dup, w_pop, w_dup2, w_ieq, w_zeq, w_ine, w_zne, w_ilt, w_zlt, w_ige, w_zge, w_igt, w_zgt, w_ile, w_zle, w_cut, w_tsw, zsw, w_iret, w_zret, w_lret, w_vret, w_nret, w_getI, w_getJ, w_getR, w_putI, w_putZ, w_putJ, w_iald, w_zald, w_iast, w_zast, w_alen, w_sI, w_sJ, w_sV, w_vI, w_vJ, w_vV, w_tI, w_mmax, w_mmin, w_mabs, w_lmax, w_acopy, gL, sL, kl_i, kl_l, kl_r, kl_s, kl_m, qI_i, qJ_l, qA_r, qA_s, pI_i, pJ_l, pA_r, pS_s, pM_m, pV_v, c1_i, c1_r, c1_s, c1_m, cS_0, cS_i, cS_l, cS_r, cS_s, cS_m, pN, z_rc_r, zE1, zE2, zE3, true_and, and_true, Nat.zero_add, Nat.reduceAdd, Nat.reduceLeDiff, true_or, or_true, Int.reduceLE, Int.reduceLT, zcmp_l, zcmp_g, zcmp_e, zcmp_le, mo, mf0, mz0, mf1, mz1, mf2, mz2, mf6, mz6, mf10, mz10, mf11, mz11, mf12, mz12, mf13, mz13, mf14, mz14, mf16, mz16, mf17, mz17, mf18, mz18, mf19, mz19, mi3, mi7, mi8, mi9, mi15, mi4, mi5, mi20, ma125, mn125, ma126, mn126, ma127, mn127, ma128, mn128, ma129, mn129, ma130, mn130, ma131, mn131, ma132, mn132, ma133, mn133, ma134, mn134, ma135, mn135, ma136, mn136, ma137, mn137]
      exact ⟨fun _ => hP', fun w => absurd (by omega) w⟩
    | succ r ih =>
      intro t hr t0 t1 hn2
      have go : ¬ (zFst (sMt (sAt (s 0) i) (sAt (s 0) j) t 0) 61 ≠ -1 ↔ x = 1) → zR (t + 1) ∧ zW miX6_waits P 47 [zr 124, zi i, zi j, zi x, zi (t + 1)] D' := by
        intro q
        refine ⟨⟨by omega, by omega⟩, ih (t + 1) (by omega) (by omega) (by omega) fun u u0 u1 => ?_⟩
        by_cases e : u = t
        · rw [e]; exact q
        · exact hn2 u u0 (by omega)
      have out : (zFst (sMt (sAt (s 0) i) (sAt (s 0) j) t 0) 61 ≠ -1 ↔ x = 1) → P t D' := by
        intro q
        rw [zFst_of t0 q hn2 (by omega)] at hP'
        exact hP'
      refine sX6_waits_47 _ _ _ _ _ ?_
      simp only [tX6_waits_47, w_ic, w_lc, w_lds, w_ild, w_lld, w_ald, w_ist, w_lst, w_ast, w_iinc, w_iadd, w_isub, w_imul, w_idiv, w_irem, w_iand, w_ior, w_ixor, w_ishl, w_ishr, w_iushr, w_ineg, w_ladd, w_lsub, w_lmul, w_ldiv, w_lrem, w_lcmp, w_i2l, w_l2i, w_dup, w_pop, w_dup2, w_ieq, w_zeq, w_ine, w_zne, w_ilt, w_zlt, w_ige, w_zge, w_igt, w_zgt, w_ile, w_zle, w_cut, w_tsw, zsw, w_iret, w_zret, w_lret, w_vret, w_nret, w_getI, w_getJ, w_getR, w_putI, w_putZ, w_putJ, w_iald, w_zald, w_iast, w_zast, w_alen, w_sI, w_sJ, w_sV, w_vI, w_vJ, w_vV, w_tI, w_mmax, w_mmin, w_mabs, w_lmax, w_acopy, gL, sL, kl_i, kl_l, kl_r, kl_s, kl_m, qI_i, qJ_l, qA_r, qA_s, pI_i, pJ_l, pA_r, pS_s, pM_m, pV_v, c1_i, c1_r, c1_s, c1_m, cS_0, cS_i, cS_l, cS_r, cS_s, cS_m, pN, z_rc_r, zE1, zE2, zE3, true_and, and_true, Nat.zero_add, Nat.reduceAdd, Nat.reduceLeDiff, true_or, or_true, Int.reduceLE, Int.reduceLT, zcmp_l, zcmp_g, zcmp_e, zcmp_le, mo, mf0, mz0, mf1, mz1, mf2, mz2, mf6, mz6, mf10, mz10, mf11, mz11, mf12, mz12, mf13, mz13, mf14, mz14, mf16, mz16, mf17, mz17, mf18, mz18, mf19, mz19, mi3, mi7, mi8, mi9, mi15, mi4, mi5, mi20, ma125, mn125, ma126, mn126, ma127, mn127, ma128, mn128, ma129, mn129, ma130, mn130, ma131, mn131, ma132, mn132, ma133, mn133, ma134, mn134, ma135, mn135, ma136, mn136, ma137, mn137]
      refine ⟨fun w => absurd w (by omega), fun _ => ?_⟩
      refine m_meetBy h1 h2 (by omega) (by omega) (by decide) (by decide) (by decide) (by decide) ?_
      have z61 : ((60 : Int) + 1).toNat = 61 := rfl
      rw [z61]
      have hz : 1000000 ≤ zFar (zFst (sMt (sAt (s 0) i) (sAt (s 0) j) t 0) 61) ↔ zFst (sMt (sAt (s 0) i) (sAt (s 0) j) t 0) 61 = -1 := by
        rcases zFst_spec (p := sMt (sAt (s 0) i) (sAt (s 0) j) t 0) 61 with ⟨e, _⟩ | ⟨e0, e1, _⟩
        · rw [e]; exact ⟨fun _ => rfl, fun _ => by decide⟩
        · unfold zFar
          rw [if_neg (by omega)]
          omega
      generalize hZ : zFst (sMt (sAt (s 0) i) (sAt (s 0) j) t 0) 61 = Z at hz go out ⊢
      refine ⟨fun g => ⟨fun g2 => ?_, fun g2 => ?_⟩, fun g => ⟨fun g2 => ?_, fun g2 => ?_⟩⟩
      all_goals refine ⟨fun v => ?_, fun v => ?_⟩
      all_goals first | exact absurd trivial v | exact absurd (by decide : ¬ ((0 : Int) = 1)) v | exact absurd (by decide : ¬ ((1 : Int) = 0)) v | exact out (by omega) | exact go (by omega)
  exact loop 21 0 rfl (by omega) (by omega) (fun u u0 u1 => by omega)
theorem zbt_zbits {f : Int → Int} : ∀ (n k : Nat), zbt (zbits n f) k = if k < n ∧ f k ≠ 0 then 1 else 0
  | 0, k => by
    rw [if_neg (by omega)]
    show (0 : Int) / _ % 2 = 0
    rw [Int.zero_ediv]
    rfl
  | n + 1, k => by
    have ih := zbt_zbits (f := f) n k
    have zb := zbits_b (f := f) n
    have e : zbits (n + 1) f = zbits n f + (if f n = 0 then 0 else 2 ^ n) := by
      have := zbits_s (f := f) (i := (n : Int)) (by omega)
      rw [show ((n : Int) + 1).toNat = n + 1 by omega, show (n : Int).toNat = n by omega] at this
      exact this
    rw [e]
    by_cases h0 : f n = 0
    · rw [if_pos h0, Int.add_zero, ih]
      by_cases hk : k = n
      · subst hk
        rw [if_neg (by omega), if_neg (fun w => w.2 h0)]
      · by_cases hl : k < n ∧ f k ≠ 0
        · rw [if_pos hl, if_pos ⟨by omega, hl.2⟩]
        · rw [if_neg hl, if_neg (fun w => hl ⟨by omega, w.2⟩)]
    · rw [if_neg h0]
      unfold zbt at ih ⊢
      rw [Int.toNat_natCast] at ih ⊢
      have hp : (0 : Int) < 2 ^ k := Int.pow_pos (by decide)
      rcases Nat.lt_trichotomy k n with hk | hk | hk
      · have e2 : (2 : Int) ^ n = 2 ^ k * (2 * 2 ^ (n - k - 1)) := by
          rw [← Int.mul_assoc, ← Int.pow_succ, ← Int.pow_add]
          congr 1
          omega
        rw [e2, Int.add_mul_ediv_left _ _ (by omega), Int.add_mul_emod_self_left, ih]
        by_cases hf : f k ≠ 0
        · rw [if_pos ⟨hk, hf⟩, if_pos ⟨by omega, hf⟩]
        · rw [if_neg (fun w => hf w.2), if_neg (fun w => hf w.2)]
      · subst hk
        rw [if_pos ⟨by omega, h0⟩]
        have e3 : (zbits k f + 2 ^ k) / 2 ^ k = 1 := by
          have := Int.add_mul_ediv_left (zbits k f) (b := (2 : Int) ^ k) 1 (by omega)
          rw [Int.mul_one] at this
          rw [this, Int.ediv_eq_zero_of_lt zb.1 zb.2]
          rfl
        rw [e3]
        rfl
      · rw [if_neg (by omega)]
        have e4 : (2 : Int) ^ (n + 1) ≤ 2 ^ k := by
          have : (2 : Nat) ^ (n + 1) ≤ 2 ^ k := Nat.pow_le_pow_right (by decide) hk
          have c1 : ((2 : Int) ^ (n + 1)) = ((2 ^ (n + 1) : Nat) : Int) := by simp
          have c2 : ((2 : Int) ^ k) = ((2 ^ k : Nat) : Int) := by simp
          omega
        have e5 : (2 : Int) ^ (n + 1) = 2 ^ n + 2 ^ n := by rw [Int.pow_succ]; omega
        rw [Int.ediv_eq_zero_of_lt (by omega) (by omega)]
        rfl
theorem zsum_pad {f : Int → Int} {n : Nat} : ∀ m : Nat, (∀ k : Int, (n : Int) ≤ k → k < ((n + m : Nat) : Int) → f k = 0) → zsum (n + m) f = zsum n f
  | 0, _ => rfl
  | m + 1, h => by
    show zsum (n + m) f + f ((n + m : Nat) : Int) = _
    rw [zsum_pad m (fun k k0 k1 => h k k0 (by omega)), h _ (by omega) (by omega), Int.add_zero]
theorem zsum_bits {f : Int → Int} {n : Nat} (hn : n ≤ 6) : zsum 6 (zbt (zbits n f)) = zsum n (fun i => if f i = 0 then 0 else 1) := by
  have e : zsum 6 (zbt (zbits n f)) = zsum (n + (6 - n)) (fun i => if i < (n : Int) ∧ f i ≠ 0 then 1 else 0) := by
    rw [show n + (6 - n) = 6 by omega]
    refine zsum_eq 6 fun k k0 k1 => ?_
    obtain ⟨q, rfl⟩ := Int.eq_ofNat_of_zero_le k0
    rw [zbt_zbits]
    by_cases h : q < n ∧ f q ≠ 0
    · rw [if_pos h, if_pos ⟨by omega, h.2⟩]
    · rw [if_neg h, if_neg (fun w => h ⟨by omega, w.2⟩)]
  rw [e, zsum_pad _ (fun k k0 k1 => if_neg (by omega))]
  refine zsum_eq n fun k k0 k1 => ?_
  by_cases h : f k = 0
  · rw [if_pos h, if_neg (fun w => w.2 h)]
  · rw [if_neg h, if_pos ⟨by omega, h⟩]
theorem m_lostOnes {r M : Int} {a : Int → Int} {D : Mem} {P : Int → Mem → Prop} (hr : rOK r) (hq : yQ D r a) (hw : WA M a) (hP : ∀ D', yF D D' → yQ D' r a → D' 124 15 = zMx (a 1).toNat (fun i => sGd (sOp a) (a (34 + i))) → P (zbits (a 1).toNat (fun i => if sGd (sOp a) (a (34 + i)) = -1 then 1 else 0)) D') : zC miX6_lostOnes [zr 124, zi r] D P := by
  have hb := hr.b
  have n1 := hw.n1
  have q0 : ∀ {D1 : Mem} {k x : Int}, yQ D1 r a → yQ (zU D1 124 k x) r a := fun h => by
    unfold yQ
    rw [zU_ne (by decide)]
    exact h
  refine e_X6_lostOnes ?_
  simp only [tX6_lostOnes_0, w_ic, w_lc, w_lds, w_ild, w_lld, w_ald, w_ist, w_lst, w_ast, w_iinc, w_iadd, w_isub, w_imul, w_idiv, w_irem, w_iand, w_ior, w_ixor, w_ishl, w_ishr, w_iushr, w_ineg, w_ladd, w_lsub, w_lmul, w_ldiv, w_lrem, w_lcmp, w_i2l, w_l2i, w_dup, w_pop, w_dup2, w_ieq, w_zeq, w_ine, w_zne, w_ilt, w_zlt, w_ige, w_zge, w_igt, w_zgt, w_ile, w_zle, w_cut, w_tsw, zsw, w_iret, w_zret, w_lret, w_vret, w_nret, w_getI, w_getJ, w_getR, w_putI, w_putZ, w_putJ, w_iald, w_zald, w_iast, w_zast, w_alen, w_sI, w_sJ, w_sV, w_vI, w_vJ, w_vV, w_tI, w_mmax, w_mmin, w_mabs, w_lmax, w_acopy, gL, sL, kl_i, kl_l, kl_r, kl_s, kl_m, qI_i, qJ_l, qA_r, qA_s, pI_i, pJ_l, pA_r, pS_s, pM_m, pV_v, c1_i, c1_r, c1_s, c1_m, cS_0, cS_i, cS_l, cS_r, cS_s, cS_m, pN, z_rc_r, zE1, zE2, zE3, true_and, and_true, Nat.zero_add, Nat.reduceAdd, Nat.reduceLeDiff, true_or, or_true, Int.reduceLE, Int.reduceLT, zcmp_l, zcmp_g, zcmp_e, zcmp_le, mo, mf0, mz0, mf1, mz1, mf2, mz2, mf6, mz6, mf10, mz10, mf11, mz11, mf12, mz12, mf13, mz13, mf14, mz14, mf16, mz16, mf17, mz17, mf18, mz18, mf19, mz19, mi3, mi7, mi8, mi9, mi15, mi4, mi5, mi20, ma125, mn125, ma126, mn126, ma127, mn127, ma128, mn128, ma129, mn129, ma130, mn130, ma131, mn131, ma132, mn132, ma133, mn133, ma134, mn134, ma135, mn135, ma136, mn136, ma137, mn137]
  refine m_laysAway (S := fun x => 0 ≤ x ∧ x < 4) hr (q0 hq) hw.n0 (fun c hc => ⟨fun w => Or.inl ⟨by decide, w.2⟩, fun w => w.elim (fun w => ⟨hc.1, w.2⟩) fun w => absurd w.1 (by decide)⟩) fun D' f he => ?_
  have hq' := f.q (q0 (k := 15) (x := 0) hq)
  have ff : yF D D' := (yF.u4 (by decide)).trans f.s
  have e15 : D' 124 15 = 0 := by rw [f 124 (by decide) (by decide), zU_s]
  have loop : ∀ (m : Nat) (i : Int) (v : AV) (D1 : Mem), (a 1 - i).toNat = m → 0 ≤ i → i ≤ a 1 → yF D D1 → yQ D1 r a → (∀ c, D1 129 c = D' 129 c) → D1 124 15 = zMx i.toNat (fun i => sGd (sOp a) (a (34 + i))) → zW miX6_lostOnes P 15 [zr 124, zi r, zi (zbits i.toNat (fun i => if sGd (sOp a) (a (34 + i)) = -1 then 1 else 0)), zi i, v] D1 := by
    intro m
    induction m with
    | zero =>
      intro i v D1 hm i0 i1 g1 g2 g3 g4
      have e : i = a 1 := by omega
      rw [e] at g4 ⊢
      refine sX6_lostOnes_15 _ _ _ _ _ ?_
      simp only [tX6_lostOnes_15, w_ic, w_lc, w_lds, w_ild, w_lld, w_ald, w_ist, w_lst, w_ast, w_iinc, w_iadd, w_isub, w_imul, w_idiv, w_irem, w_iand, w_ior, w_ixor, w_ishl, w_ishr, w_iushr, w_ineg, w_ladd, w_lsub, w_lmul, w_ldiv, w_lrem, w_lcmp, w_i2l, w_l2i, w_dup, w_pop, w_dup2, w_ieq, w_zeq, w_ine, w_zne, w_ilt, w_zlt, w_ige, w_zge, w_igt, w_zgt, w_ile, w_zle, w_cut, w_tsw, zsw, w_iret, w_zret, w_lret, w_vret, w_nret, w_getI, w_getJ, w_getR, w_putI, w_putZ, w_putJ, w_iald, w_zald, w_iast, w_zast, w_alen, w_sI, w_sJ, w_sV, w_vI, w_vJ, w_vV, w_tI, w_mmax, w_mmin, w_mabs, w_lmax, w_acopy, gL, sL, kl_i, kl_l, kl_r, kl_s, kl_m, qI_i, qJ_l, qA_r, qA_s, pI_i, pJ_l, pA_r, pS_s, pM_m, pV_v, c1_i, c1_r, c1_s, c1_m, cS_0, cS_i, cS_l, cS_r, cS_s, cS_m, pN, z_rc_r, zE1, zE2, zE3, true_and, and_true, Nat.zero_add, Nat.reduceAdd, Nat.reduceLeDiff, true_or, or_true, Int.reduceLE, Int.reduceLT, zcmp_l, zcmp_g, zcmp_e, zcmp_le, mo, mf0, mz0, mf1, mz1, mf2, mz2, mf6, mz6, mf10, mz10, mf11, mz11, mf12, mz12, mf13, mz13, mf14, mz14, mf16, mz16, mf17, mz17, mf18, mz18, mf19, mz19, mi3, mi7, mi8, mi9, mi15, mi4, mi5, mi20, ma125, mn125, ma126, mn126, ma127, mn127, ma128, mn128, ma129, mn129, ma130, mn130, ma131, mn131, ma132, mn132, ma133, mn133, ma134, mn134, ma135, mn135, ma136, mn136, ma137, mn137]
      rw [g2 1 (by omega) (by omega)]
      refine ⟨⟨by omega, by omega⟩, by omega, by omega, fun _ => hP D1 g1 g2 g4, fun w => absurd (by omega) w⟩
    | succ m ih =>
      intro i v D1 hm i0 i1 g1 g2 g3 g4
      have zb := zbits_b (f := fun i => if sGd (sOp a) (a (34 + i)) = -1 then (1 : Int) else 0) i.toNat
      have hat : inC (a (34 + i)) := (hw.2.2.1 i i0 (by omega)).2.2.2.1
      have at0 := hat.1
      have at1 := hat.2
      obtain ⟨e1, e2, e3⟩ := he _ hat
      have ed : sd (adjO (sOp a)) (fun x => 0 ≤ x ∧ x < 4) (a (34 + i)) = sGd (sOp a) (a (34 + i)) := rfl
      rw [ed] at e1 e2 e3
      have mx0 := zMx_0 (f := fun i => sGd (sOp a) (a (34 + i))) i.toNat
      have nx := fun v D2 h1 h2 h3 h4 => ih (i + 1) v D2 (by omega) (by omega) (by omega) h1 h2 h3 h4
      rw [zMx_s i0, zbits_s i0] at nx
      have hlt : zbits i.toNat (fun i => if sGd (sOp a) (a (34 + i)) = -1 then (1 : Int) else 0) < 1048576 := by
        have e : (2 : Int) ^ i.toNat < 1048576 := (by decide : ∀ n : Nat, n < 7 → (2 : Int) ^ n < 1048576) i.toNat (by omega)
        omega
      have st : ∀ x : Int, x = max (zMx i.toNat (fun i => sGd (sOp a) (a (34 + i)))) (sGd (sOp a) (a (34 + i))) → ∀ v, zR (i + 1) ∧ zW miX6_lostOnes P 15 [zr 124, zi r, zi (zbits i.toNat (fun i => if sGd (sOp a) (a (34 + i)) = -1 then 1 else 0) + (if (if sGd (sOp a) (a (34 + i)) = -1 then (1 : Int) else 0) = 0 then 0 else 2 ^ i.toNat)), zi (i + 1), v] (zU D1 124 15 x) := fun x hx v => ⟨⟨by omega, by omega⟩, nx v _ (g1.trans (yF.u4 (by decide))) (q0 g2) (fun c => by rw [zU_o (by decide)]; exact g3 c) (by rw [zU_s, hx])⟩
      by_cases el : sGd (sOp a) (a (34 + i)) = -1
      · have ez : zFar (sGd (sOp a) (a (34 + i))) = 1000000 := by unfold zFar; rw [if_pos el]
        rw [if_pos el, if_neg (by decide), ← bO_add i0 (by omega) zb.1 zb.2] at st
        refine sX6_lostOnes_15 _ _ _ _ _ ?_
        simp only [tX6_lostOnes_15, w_ic, w_lc, w_lds, w_ild, w_lld, w_ald, w_ist, w_lst, w_ast, w_iinc, w_iadd, w_isub, w_imul, w_idiv, w_irem, w_iand, w_ior, w_ixor, w_ishl, w_ishr, w_iushr, w_ineg, w_ladd, w_lsub, w_lmul, w_ldiv, w_lrem, w_lcmp, w_i2l, w_l2i, w_dup, w_pop, w_dup2, w_ieq, w_zeq, w_ine, w_zne, w_ilt, w_zlt, w_ige, w_zge, w_igt, w_zgt, w_ile, w_zle, w_cut, w_tsw, zsw, w_iret, w_zret, w_lret, w_vret, w_nret, w_getI, w_getJ, w_getR, w_putI, w_putZ, w_putJ, w_iald, w_zald, w_iast, w_zast, w_alen, w_sI, w_sJ, w_sV, w_vI, w_vJ, w_vV, w_tI, w_mmax, w_mmin, w_mabs, w_lmax, w_acopy, gL, sL, kl_i, kl_l, kl_r, kl_s, kl_m, qI_i, qJ_l, qA_r, qA_s, pI_i, pJ_l, pA_r, pS_s, pM_m, pV_v, c1_i, c1_r, c1_s, c1_m, cS_0, cS_i, cS_l, cS_r, cS_s, cS_m, pN, z_rc_r, zE1, zE2, zE3, true_and, and_true, Nat.zero_add, Nat.reduceAdd, Nat.reduceLeDiff, true_or, or_true, Int.reduceLE, Int.reduceLT, zcmp_l, zcmp_g, zcmp_e, zcmp_le, mo, mf0, mz0, mf1, mz1, mf2, mz2, mf6, mz6, mf10, mz10, mf11, mz11, mf12, mz12, mf13, mz13, mf14, mz14, mf16, mz16, mf17, mz17, mf18, mz18, mf19, mz19, mi3, mi7, mi8, mi9, mi15, mi4, mi5, mi20, ma125, mn125, ma126, mn126, ma127, mn127, ma128, mn128, ma129, mn129, ma130, mn130, ma131, mn131, ma132, mn132, ma133, mn133, ma134, mn134, ma135, mn135, ma136, mn136, ma137, mn137]
        rw [g2 1 (by omega) (by omega), g2.t 34 i (by omega) (by omega), g3, e1, ez, g4]
        refine ⟨⟨by omega, by omega⟩, by omega, by omega, fun w => absurd w (by omega), fun _ => ?_⟩
        repeat' (with_reducible apply And.intro)
        all_goals first | omega | exact ⟨by omega, by omega⟩ | skip
        · intro _
          exact ⟨fun _ => st _ (by omega) _, fun w => absurd (by omega) w⟩
      · have ez : zFar (sGd (sOp a) (a (34 + i))) = sGd (sOp a) (a (34 + i)) := by unfold zFar; rw [if_neg el]
        rw [if_neg el, if_pos rfl, Int.add_zero] at st
        refine sX6_lostOnes_15 _ _ _ _ _ ?_
        simp only [tX6_lostOnes_15, w_ic, w_lc, w_lds, w_ild, w_lld, w_ald, w_ist, w_lst, w_ast, w_iinc, w_iadd, w_isub, w_imul, w_idiv, w_irem, w_iand, w_ior, w_ixor, w_ishl, w_ishr, w_iushr, w_ineg, w_ladd, w_lsub, w_lmul, w_ldiv, w_lrem, w_lcmp, w_i2l, w_l2i, w_dup, w_pop, w_dup2, w_ieq, w_zeq, w_ine, w_zne, w_ilt, w_zlt, w_ige, w_zge, w_igt, w_zgt, w_ile, w_zle, w_cut, w_tsw, zsw, w_iret, w_zret, w_lret, w_vret, w_nret, w_getI, w_getJ, w_getR, w_putI, w_putZ, w_putJ, w_iald, w_zald, w_iast, w_zast, w_alen, w_sI, w_sJ, w_sV, w_vI, w_vJ, w_vV, w_tI, w_mmax, w_mmin, w_mabs, w_lmax, w_acopy, gL, sL, kl_i, kl_l, kl_r, kl_s, kl_m, qI_i, qJ_l, qA_r, qA_s, pI_i, pJ_l, pA_r, pS_s, pM_m, pV_v, c1_i, c1_r, c1_s, c1_m, cS_0, cS_i, cS_l, cS_r, cS_s, cS_m, pN, z_rc_r, zE1, zE2, zE3, true_and, and_true, Nat.zero_add, Nat.reduceAdd, Nat.reduceLeDiff, true_or, or_true, Int.reduceLE, Int.reduceLT, zcmp_l, zcmp_g, zcmp_e, zcmp_le, mo, mf0, mz0, mf1, mz1, mf2, mz2, mf6, mz6, mf10, mz10, mf11, mz11, mf12, mz12, mf13, mz13, mf14, mz14, mf16, mz16, mf17, mz17, mf18, mz18, mf19, mz19, mi3, mi7, mi8, mi9, mi15, mi4, mi5, mi20, ma125, mn125, ma126, mn126, ma127, mn127, ma128, mn128, ma129, mn129, ma130, mn130, ma131, mn131, ma132, mn132, ma133, mn133, ma134, mn134, ma135, mn135, ma136, mn136, ma137, mn137]
        rw [g2 1 (by omega) (by omega), g2.t 34 i (by omega) (by omega), g3, e1, ez, g4, bO_z zb.1 hlt]
        refine ⟨⟨by omega, by omega⟩, by omega, by omega, fun w => absurd w (by omega), fun _ => ?_⟩
        repeat' (with_reducible apply And.intro)
        all_goals first | omega | exact ⟨by omega, by omega⟩ | skip
        · intro _
          exact ⟨fun w => absurd w (by omega), fun _ => ⟨fun q => st _ (by omega) _, fun q => st _ (by omega) _⟩⟩
  exact loop _ 0 _ D' rfl (by omega) n1.1 ff hq' (fun _ => rfl) e15
theorem m_down {n x : Int} {s : Mem} (hW : WS n s) (hn : n < 1000000) : mOK miX6_down [zr 124, zi x] s (r_down s x) := by
  intro D P hM hP
  have w := hW.1.1
  have h := hM.1
  unfold r_down at hP
  refine e_X6_down ?_
  simp only [tX6_down_0, w_ic, w_lc, w_lds, w_ild, w_lld, w_ald, w_ist, w_lst, w_ast, w_iinc, w_iadd, w_isub, w_imul, w_idiv, w_irem, w_iand, w_ior, w_ixor, w_ishl, w_ishr, w_iushr, w_ineg, w_ladd, w_lsub, w_lmul, w_ldiv, w_lrem, w_lcmp, w_i2l, w_l2i, w_dup, w_pop, w_dup2, w_ieq, w_zeq, w_ine, w_zne, w_ilt, w_zlt, w_ige, w_zge, w_igt, w_zgt, w_ile, w_zle, w_cut, w_tsw, zsw, w_iret, w_zret, w_lret, w_vret, w_nret, w_getI, w_getJ, w_getR, w_putI, w_putZ, w_putJ, w_iald, w_zald, w_iast, w_zast, w_alen, w_sI, w_sJ, w_sV, w_vI, w_vJ, w_vV, w_tI, w_mmax, w_mmin, w_mabs, w_lmax, w_acopy, gL, sL, kl_i, kl_l, kl_r, kl_s, kl_m, qI_i, qJ_l, qA_r, qA_s, pI_i, pJ_l, pA_r, pS_s, pM_m, pV_v, c1_i, c1_r, c1_s, c1_m, cS_0, cS_i, cS_l, cS_r, cS_s, cS_m, pN, z_rc_r, zE1, zE2, zE3, true_and, and_true, Nat.zero_add, Nat.reduceAdd, Nat.reduceLeDiff, true_or, or_true, Int.reduceLE, Int.reduceLT, zcmp_l, zcmp_g, zcmp_e, zcmp_le, mo, mf0, mz0, mf1, mz1, mf2, mz2, mf6, mz6, mf10, mz10, mf11, mz11, mf12, mz12, mf13, mz13, mf14, mz14, mf16, mz16, mf17, mz17, mf18, mz18, mf19, mz19, mi3, mi7, mi8, mi9, mi15, mi4, mi5, mi20, ma125, mn125, ma126, mn126, ma127, mn127, ma128, mn128, ma129, mn129, ma130, mn130, ma131, mn131, ma132, mn132, ma133, mn133, ma134, mn134, ma135, mn135, ma136, mn136, ma137, mn137]
  refine m_in (fun q => ⟨fun _ => ?_, fun w => absurd (by decide) w⟩) (fun q => ⟨fun w => absurd rfl w, fun _ => ?_⟩)
  · rw [cIf_t q] at hP
    refine m_lostOnes (Or.inl rfl) h.q w fun D' f _ e => ?_
    have hP' := hP D' f.fr (hM.s f)
    dsimp only at hP'
    refine ⟨fun g => ?_, fun g => ?_⟩
    · rw [if_neg g] at hP'; exact hP'
    · rw [if_pos (Decidable.not_not.mp g)] at hP'
      rw [e]; exact hP'
  · rw [cIf_f q] at hP
    exact m_bad hM hW hn hP
theorem m_cut {n x : Int} {s : Mem} (hW : WS n s) (hn : n < 1000000) : mOK miX6_cut [zr 124, zi x] s (r_cut s x) := by
  intro D P hM hP
  have w := hW.1.1
  have h := hM.1
  have n0 := w.n0
  have n1 := w.n1
  unfold r_cut at hP
  refine e_X6_cut ?_
  simp only [tX6_cut_0, w_ic, w_lc, w_lds, w_ild, w_lld, w_ald, w_ist, w_lst, w_ast, w_iinc, w_iadd, w_isub, w_imul, w_idiv, w_irem, w_iand, w_ior, w_ixor, w_ishl, w_ishr, w_iushr, w_ineg, w_ladd, w_lsub, w_lmul, w_ldiv, w_lrem, w_lcmp, w_i2l, w_l2i, w_dup, w_pop, w_dup2, w_ieq, w_zeq, w_ine, w_zne, w_ilt, w_zlt, w_ige, w_zge, w_igt, w_zgt, w_ile, w_zle, w_cut, w_tsw, zsw, w_iret, w_zret, w_lret, w_vret, w_nret, w_getI, w_getJ, w_getR, w_putI, w_putZ, w_putJ, w_iald, w_zald, w_iast, w_zast, w_alen, w_sI, w_sJ, w_sV, w_vI, w_vJ, w_vV, w_tI, w_mmax, w_mmin, w_mabs, w_lmax, w_acopy, gL, sL, kl_i, kl_l, kl_r, kl_s, kl_m, qI_i, qJ_l, qA_r, qA_s, pI_i, pJ_l, pA_r, pS_s, pM_m, pV_v, c1_i, c1_r, c1_s, c1_m, cS_0, cS_i, cS_l, cS_r, cS_s, cS_m, pN, z_rc_r, zE1, zE2, zE3, true_and, and_true, Nat.zero_add, Nat.reduceAdd, Nat.reduceLeDiff, true_or, or_true, Int.reduceLE, Int.reduceLT, zcmp_l, zcmp_g, zcmp_e, zcmp_le, mo, mf0, mz0, mf1, mz1, mf2, mz2, mf6, mz6, mf10, mz10, mf11, mz11, mf12, mz12, mf13, mz13, mf14, mz14, mf16, mz16, mf17, mz17, mf18, mz18, mf19, mz19, mi3, mi7, mi8, mi9, mi15, mi4, mi5, mi20, ma125, mn125, ma126, mn126, ma127, mn127, ma128, mn128, ma129, mn129, ma130, mn130, ma131, mn131, ma132, mn132, ma133, mn133, ma134, mn134, ma135, mn135, ma136, mn136, ma137, mn137]
  refine m_in (fun q => ⟨fun _ => ?_, fun w => absurd (by decide) w⟩) (fun q => ⟨fun w => absurd rfl w, fun _ => ?_⟩)
  · rw [cIf_t q] at hP
    have loop : ∀ (r : Nat) (k : Int) (v : AV) (D1 : Mem), (s 0 0 - k).toNat = r → 0 ≤ k → k ≤ s 0 0 → yF D D1 → zW miX6_cut P 24 [zr 124, zi x, zi (sCut (s 0) k.toNat).1, zi (sCut (s 0) k.toNat).2, zi k, v] D1 := by
      intro r
      induction r with
      | zero =>
        intro k v D1 hr k0 k1 hf
        have h1 := (hM.s hf).1
        have hP' := hP D1 hf.fr (hM.s hf)
        dsimp only at hP'
        refine sX6_cut_24 _ _ _ _ _ ?_
        simp only [tX6_cut_24, w_ic, w_lc, w_lds, w_ild, w_lld, w_ald, w_ist, w_lst, w_ast, w_iinc, w_iadd, w_isub, w_imul, w_idiv, w_irem, w_iand, w_ior, w_ixor, w_ishl, w_ishr, w_iushr, w_ineg, w_ladd, w_lsub, w_lmul, w_ldiv, w_lrem, w_lcmp, w_i2l, w_l2i, w_dup, w_pop, w_dup2, w_ieq, w_zeq, w_ine, w_zne, w_ilt, w_zlt, w_ige, w_zge, w_igt, w_zgt, w_ile, w_zle, w_cut, w_tsw, zsw, w_iret, w_zret, w_lret, w_vret, w_nret, w_getI, w_getJ, w_getR, w_putI, w_putZ, w_putJ, w_iald, w_zald, w_iast, w_zast, w_alen, w_sI, w_sJ, w_sV, w_vI, w_vJ, w_vV, w_tI, w_mmax, w_mmin, w_mabs, w_lmax, w_acopy, gL, sL, kl_i, kl_l, kl_r, kl_s, kl_m, qI_i, qJ_l, qA_r, qA_s, pI_i, pJ_l, pA_r, pS_s, pM_m, pV_v, c1_i, c1_r, c1_s, c1_m, cS_0, cS_i, cS_l, cS_r, cS_s, cS_m, pN, z_rc_r, zE1, zE2, zE3, true_and, and_true, Nat.zero_add, Nat.reduceAdd, Nat.reduceLeDiff, true_or, or_true, Int.reduceLE, Int.reduceLT, zcmp_l, zcmp_g, zcmp_e, zcmp_le, mo, mf0, mz0, mf1, mz1, mf2, mz2, mf6, mz6, mf10, mz10, mf11, mz11, mf12, mz12, mf13, mz13, mf14, mz14, mf16, mz16, mf17, mz17, mf18, mz18, mf19, mz19, mi3, mi7, mi8, mi9, mi15, mi4, mi5, mi20, ma125, mn125, ma126, mn126, ma127, mn127, ma128, mn128, ma129, mn129, ma130, mn130, ma131, mn131, ma132, mn132, ma133, mn133, ma134, mn134, ma135, mn135, ma136, mn136, ma137, mn137]
        rw [h1.z (by omega) (by omega), show k = s 0 0 by omega]
        refine ⟨fun _ => ⟨fun g => ?_, fun g => ?_⟩, fun w => absurd (by omega) w⟩
        · rw [if_neg g] at hP'; exact hP'
        · rw [if_pos (Decidable.not_not.mp g)] at hP'; exact hP'
      | succ r ih =>
        intro k v D1 hr k0 k1 hf
        have hM1 := hM.s hf
        have h1 := hM1.1
        have nx := fun v D2 g => ih (k + 1) v D2 (by omega) (by omega) (by omega) g
        rw [sCut_s k0] at nx
        refine sX6_cut_24 _ _ _ _ _ ?_
        simp only [tX6_cut_24, w_ic, w_lc, w_lds, w_ild, w_lld, w_ald, w_ist, w_lst, w_ast, w_iinc, w_iadd, w_isub, w_imul, w_idiv, w_irem, w_iand, w_ior, w_ixor, w_ishl, w_ishr, w_iushr, w_ineg, w_ladd, w_lsub, w_lmul, w_ldiv, w_lrem, w_lcmp, w_i2l, w_l2i, w_dup, w_pop, w_dup2, w_ieq, w_zeq, w_ine, w_zne, w_ilt, w_zlt, w_ige, w_zge, w_igt, w_zgt, w_ile, w_zle, w_cut, w_tsw, zsw, w_iret, w_zret, w_lret, w_vret, w_nret, w_getI, w_getJ, w_getR, w_putI, w_putZ, w_putJ, w_iald, w_zald, w_iast, w_zast, w_alen, w_sI, w_sJ, w_sV, w_vI, w_vJ, w_vV, w_tI, w_mmax, w_mmin, w_mabs, w_lmax, w_acopy, gL, sL, kl_i, kl_l, kl_r, kl_s, kl_m, qI_i, qJ_l, qA_r, qA_s, pI_i, pJ_l, pA_r, pS_s, pM_m, pV_v, c1_i, c1_r, c1_s, c1_m, cS_0, cS_i, cS_l, cS_r, cS_s, cS_m, pN, z_rc_r, zE1, zE2, zE3, true_and, and_true, Nat.zero_add, Nat.reduceAdd, Nat.reduceLeDiff, true_or, or_true, Int.reduceLE, Int.reduceLT, zcmp_l, zcmp_g, zcmp_e, zcmp_le, mo, mf0, mz0, mf1, mz1, mf2, mz2, mf6, mz6, mf10, mz10, mf11, mz11, mf12, mz12, mf13, mz13, mf14, mz14, mf16, mz16, mf17, mz17, mf18, mz18, mf19, mz19, mi3, mi7, mi8, mi9, mi15, mi4, mi5, mi20, ma125, mn125, ma126, mn126, ma127, mn127, ma128, mn128, ma129, mn129, ma130, mn130, ma131, mn131, ma132, mn132, ma133, mn133, ma134, mn134, ma135, mn135, ma136, mn136, ma137, mn137]
        rw [h1.z (by omega) (by omega), h1.z (by omega) (by omega)]
        refine ⟨fun w => absurd w (by omega), fun _ => ?_⟩
        repeat' (with_reducible apply And.intro)
        all_goals first | omega | exact ⟨by omega, by omega⟩ | skip
        · intro g
          rw [if_neg (fun w => g w.1)] at nx
          exact ⟨⟨by omega, by omega⟩, nx _ _ hf⟩
        · intro g
          have g1 := Decidable.not_not.mp g
          refine m_tries h1 fun D2 f2 f3 q2 => ?_
          have q3 : yQ (zU D2 125 (1102 + k) 0) 1092 (zA (s 0) (10 + k) 0) := q2.up (by omega)
          have f4 : yF D (zU D2 125 (1102 + k) 0) := hf.trans ((yF.of5 f2 f3).trans (yF.u5 (by omega)))
          have wz : WA 9999 (zA (s 0) (10 + k) 0) := sDraw_wa w k0 (by omega) (Or.inl rfl)
          refine ⟨⟨by omega, by omega⟩, by omega, by omega, ?_⟩
          refine m_lostOnes (Or.inr (Or.inr rfl)) q3 wz fun D3 f5 _ _ => ?_
          have e1 : zA (s 0) (10 + k) 0 1 = s 0 1 := zA_n (by omega)
          have zb := zbits_b (f := fun i => if sGd (sOp (zA (s 0) (10 + k) 0)) (zA (s 0) (10 + k) 0 (34 + i)) = -1 then (1 : Int) else 0) (zA (s 0) (10 + k) 0 1).toNat
          have hlt : (2 : Int) ^ (zA (s 0) (10 + k) 0 1).toNat < 1048576 := (by decide : ∀ n : Nat, n < 7 → (2 : Int) ^ n < 1048576) _ (by rw [e1]; omega)
          refine m_ones zb.1 (by omega) ?_
          have eL : zsum 6 (zbt (zbits (zA (s 0) (10 + k) 0 1).toNat (fun i => if sGd (sOp (zA (s 0) (10 + k) 0)) (zA (s 0) (10 + k) 0 (34 + i)) = -1 then 1 else 0))) = sLost (zA (s 0) (10 + k) 0) := by
            rw [zsum_bits (by rw [e1]; omega)]
            unfold sLost
            refine zsum_eq _ fun i _ _ => ?_
            split <;> rfl
          rw [eL]
          have f6 := f4.trans f5
          refine ⟨fun g2 => ?_, fun g2 => ?_⟩
          · rw [if_neg (by omega)] at nx
            exact ⟨fun _ => ⟨⟨by omega, by omega⟩, nx _ _ f6⟩, fun w => absurd g2 w⟩
          · rw [if_pos ⟨g1, by omega⟩] at nx
            exact ⟨fun w => absurd w g2, fun _ => ⟨⟨by omega, by omega⟩, nx _ _ f6⟩⟩
    exact loop _ 0 _ D rfl (by omega) n0.1 yF.rfl
  · rw [cIf_f q] at hP
    exact m_bad hM hW hn hP
