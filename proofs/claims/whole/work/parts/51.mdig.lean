/-! ===== 51: the model: digest, who ===== -/
theorem m_digest {n : Int} {s : Mem} (hW : WS n s) : mOK miX6_digest [zr 124] s (r_digest s) := by
  intro D P hM hP
  have w := hW.1.1
  have c0 := w.n0
  have c1 := w.n1
  have c2 := w.n2
  have c4 := w.n4
  have c5 := w.n5
  have c6 := w.n6
  have hP' : ∀ D', yF D D' → P (sDg s) D' := fun D' f => hP D' f.fr (hM.s f)
  obtain ⟨h0, e0⟩ : ∃ h, h = zmix 10 1601 (sHow s) := ⟨_, rfl⟩
  obtain ⟨h1, e1⟩ : ∃ h, h = zmix (s 0 0 * 2).toNat h0 (fun j => s 0 (4 + 6 * (j % 2) + j / 2)) := ⟨_, rfl⟩
  obtain ⟨h2, e2⟩ : ∃ h, h = zmix (s 0 1 * 5).toNat h1 (fun j => s 0 (16 + 6 * (j % 5) + j / 5)) := ⟨_, rfl⟩
  obtain ⟨h3, e3⟩ : ∃ h, h = zmix (s 0 2 * 2).toNat h2 (fun j => s 0 (46 + 4 * (j % 2) + j / 2)) := ⟨_, rfl⟩
  obtain ⟨h4, e4⟩ : ∃ h, h = zmix (s 0 54 * 3).toNat h3 (fun j => s 0 (55 + j)) := ⟨_, rfl⟩
  obtain ⟨h5, e5⟩ : ∃ h, h = zmix (s 0 70 * 4).toNat h4 (fun j => s 0 (71 + j)) := ⟨_, rfl⟩
  obtain ⟨h6, e6⟩ : ∃ h, h = zmix (s 0 95 * 4).toNat h5 (fun j => s 0 (96 + j)) := ⟨_, rfl⟩
  have eD : sDg s = z64 (z64 (31 * z64 (z64 (31 * h6) + s 4 6)) + s 4 7) := by rw [e6, e5, e4, e3, e2, e1, e0]; rfl
  rw [eD] at hP'
  have main : zW miX6_digest P 9 [zr 124, zi 0, zm 0] (zU D 124 20 1601) := by
    have l244 : ∀ (r : Nat) (k : Int) (v : AV) (D1 : Mem), (4 * s 0 95 - k).toNat = r → 0 ≤ k → k ≤ 4 * s 0 95 → yF D D1 → D1 124 20 = zmix k.toNat h5 (fun j => s 0 (96 + j)) → zW miX6_digest P 244 [zr 124, zi k, v] D1 := by
      intro r
      induction r with
      | zero =>
        intro k v D1 hr k0 k1 hf hh
        have h := (hM.s hf).1
        have ek : k = s 0 95 * 4 := by omega
        rw [ek, ← e6] at hh
        refine sX6_digest_244 _ _ _ _ _ ?_
        simp only [tX6_digest_244, w_ic, w_lc, w_lds, w_ild, w_lld, w_ald, w_ist, w_lst, w_ast, w_iinc, w_iadd, w_isub, w_imul, w_idiv, w_irem, w_iand, w_ior, w_ixor, w_ishl, w_ishr, w_iushr, w_ineg, w_ladd, w_lsub, w_lmul, w_ldiv, w_lrem, w_lcmp, w_i2l, w_l2i, w_dup, w_pop, w_dup2, w_ieq, w_zeq, w_ine, w_zne, w_ilt, w_zlt, w_ige, w_zge, w_igt, w_zgt, w_ile, w_zle, w_cut, w_tsw, zsw, w_iret, w_zret, w_lret, w_vret, w_nret, w_getI, w_getJ, w_getR, w_putI, w_putZ, w_putJ, w_iald, w_zald, w_iast, w_zast, w_alen, w_sI, w_sJ, w_sV, w_vI, w_vJ, w_vV, w_tI, w_mmax, w_mmin, w_mabs, w_lmax, w_acopy, gL, sL, kl_i, kl_l, kl_r, kl_s, kl_m, qI_i, qJ_l, qA_r, qA_s, pI_i, pJ_l, pA_r, pS_s, pM_m, pV_v, c1_i, c1_r, c1_s, c1_m, cS_0, cS_i, cS_l, cS_r, cS_s, cS_m, pN, z_rc_r, zE1, zE2, zE3, true_and, and_true, Nat.zero_add, Nat.reduceAdd, Nat.reduceLeDiff, true_or, or_true, Int.reduceLE, Int.reduceLT, zcmp_l, zcmp_g, zcmp_e, zcmp_le, mo, mf0, mz0, mf1, mz1, mf2, mz2, mf6, mz6, mf10, mz10, mf11, mz11, mf12, mz12, mf13, mz13, mf14, mz14, mf16, mz16, mf17, mz17, mf18, mz18, mf19, mz19, mi3, mi7, mi8, mi9, mi15, mi4, mi5, mi20, ma125, mn125, ma126, mn126, ma127, mn127, ma128, mn128, ma129, mn129, ma130, mn130, ma131, mn131, ma132, mn132, ma133, mn133, ma134, mn134, ma135, mn135, ma136, mn136, ma137, mn137]
        rw [h.z (by omega) (by omega)]
        refine ⟨⟨by omega, by omega⟩, fun _ => ?_, fun w => absurd (by omega) w⟩
        have hT := (hM.s hf).2.2.2.2.2
        rw [hT.1]
        refine m_mix ?_
        rw [zU_k (by decide), hT.2]
        refine m_mix ?_
        rw [zU_s, zU_s, hh]
        exact hP' _ (hf.trans ((yF.u4 (by decide)).trans (yF.u4 (by decide))))
      | succ r ih =>
        intro k v D1 hr k0 k1 hf hh
        have h := (hM.s hf).1
        refine sX6_digest_244 _ _ _ _ _ ?_
        simp only [tX6_digest_244, w_ic, w_lc, w_lds, w_ild, w_lld, w_ald, w_ist, w_lst, w_ast, w_iinc, w_iadd, w_isub, w_imul, w_idiv, w_irem, w_iand, w_ior, w_ixor, w_ishl, w_ishr, w_iushr, w_ineg, w_ladd, w_lsub, w_lmul, w_ldiv, w_lrem, w_lcmp, w_i2l, w_l2i, w_dup, w_pop, w_dup2, w_ieq, w_zeq, w_ine, w_zne, w_ilt, w_zlt, w_ige, w_zge, w_igt, w_zgt, w_ile, w_zle, w_cut, w_tsw, zsw, w_iret, w_zret, w_lret, w_vret, w_nret, w_getI, w_getJ, w_getR, w_putI, w_putZ, w_putJ, w_iald, w_zald, w_iast, w_zast, w_alen, w_sI, w_sJ, w_sV, w_vI, w_vJ, w_vV, w_tI, w_mmax, w_mmin, w_mabs, w_lmax, w_acopy, gL, sL, kl_i, kl_l, kl_r, kl_s, kl_m, qI_i, qJ_l, qA_r, qA_s, pI_i, pJ_l, pA_r, pS_s, pM_m, pV_v, c1_i, c1_r, c1_s, c1_m, cS_0, cS_i, cS_l, cS_r, cS_s, cS_m, pN, z_rc_r, zE1, zE2, zE3, true_and, and_true, Nat.zero_add, Nat.reduceAdd, Nat.reduceLeDiff, true_or, or_true, Int.reduceLE, Int.reduceLT, zcmp_l, zcmp_g, zcmp_e, zcmp_le, mo, mf0, mz0, mf1, mz1, mf2, mz2, mf6, mz6, mf10, mz10, mf11, mz11, mf12, mz12, mf13, mz13, mf14, mz14, mf16, mz16, mf17, mz17, mf18, mz18, mf19, mz19, mi3, mi7, mi8, mi9, mi15, mi4, mi5, mi20, ma125, mn125, ma126, mn126, ma127, mn127, ma128, mn128, ma129, mn129, ma130, mn130, ma131, mn131, ma132, mn132, ma133, mn133, ma134, mn134, ma135, mn135, ma136, mn136, ma137, mn137]
        rw [h.z (by omega) (by omega), h.z (j := 96 + k) (by omega) (by omega)]
        refine ⟨⟨by omega, by omega⟩, fun w => absurd w (by omega), fun _ => ?_⟩
        repeat' (with_reducible apply And.intro)
        all_goals first | omega | exact ⟨by omega, by omega⟩ | skip
        refine m_mix ⟨⟨by omega, by omega⟩, ih (k + 1) v _ (by omega) (by omega) (by omega) (hf.trans (yF.u4 (by decide))) ?_⟩
        rw [zU_s, zmix_s k0, hh]
    have l209 : ∀ (r : Nat) (k : Int) (v : AV) (D1 : Mem), (4 * s 0 70 - k).toNat = r → 0 ≤ k → k ≤ 4 * s 0 70 → yF D D1 → D1 124 20 = zmix k.toNat h4 (fun j => s 0 (71 + j)) → zW miX6_digest P 209 [zr 124, zi k, v] D1 := by
      intro r
      induction r with
      | zero =>
        intro k v D1 hr k0 k1 hf hh
        have h := (hM.s hf).1
        have ek : k = s 0 70 * 4 := by omega
        rw [ek, ← e5] at hh
        refine sX6_digest_209 _ _ _ _ _ ?_
        simp only [tX6_digest_209, w_ic, w_lc, w_lds, w_ild, w_lld, w_ald, w_ist, w_lst, w_ast, w_iinc, w_iadd, w_isub, w_imul, w_idiv, w_irem, w_iand, w_ior, w_ixor, w_ishl, w_ishr, w_iushr, w_ineg, w_ladd, w_lsub, w_lmul, w_ldiv, w_lrem, w_lcmp, w_i2l, w_l2i, w_dup, w_pop, w_dup2, w_ieq, w_zeq, w_ine, w_zne, w_ilt, w_zlt, w_ige, w_zge, w_igt, w_zgt, w_ile, w_zle, w_cut, w_tsw, zsw, w_iret, w_zret, w_lret, w_vret, w_nret, w_getI, w_getJ, w_getR, w_putI, w_putZ, w_putJ, w_iald, w_zald, w_iast, w_zast, w_alen, w_sI, w_sJ, w_sV, w_vI, w_vJ, w_vV, w_tI, w_mmax, w_mmin, w_mabs, w_lmax, w_acopy, gL, sL, kl_i, kl_l, kl_r, kl_s, kl_m, qI_i, qJ_l, qA_r, qA_s, pI_i, pJ_l, pA_r, pS_s, pM_m, pV_v, c1_i, c1_r, c1_s, c1_m, cS_0, cS_i, cS_l, cS_r, cS_s, cS_m, pN, z_rc_r, zE1, zE2, zE3, true_and, and_true, Nat.zero_add, Nat.reduceAdd, Nat.reduceLeDiff, true_or, or_true, Int.reduceLE, Int.reduceLT, zcmp_l, zcmp_g, zcmp_e, zcmp_le, mo, mf0, mz0, mf1, mz1, mf2, mz2, mf6, mz6, mf10, mz10, mf11, mz11, mf12, mz12, mf13, mz13, mf14, mz14, mf16, mz16, mf17, mz17, mf18, mz18, mf19, mz19, mi3, mi7, mi8, mi9, mi15, mi4, mi5, mi20, ma125, mn125, ma126, mn126, ma127, mn127, ma128, mn128, ma129, mn129, ma130, mn130, ma131, mn131, ma132, mn132, ma133, mn133, ma134, mn134, ma135, mn135, ma136, mn136, ma137, mn137]
        rw [h.z (by omega) (by omega)]
        refine ⟨⟨by omega, by omega⟩, fun _ => ?_, fun w => absurd (by omega) w⟩
        exact l244 _ 0 v D1 rfl (by omega) (by omega) hf hh
      | succ r ih =>
        intro k v D1 hr k0 k1 hf hh
        have h := (hM.s hf).1
        refine sX6_digest_209 _ _ _ _ _ ?_
        simp only [tX6_digest_209, w_ic, w_lc, w_lds, w_ild, w_lld, w_ald, w_ist, w_lst, w_ast, w_iinc, w_iadd, w_isub, w_imul, w_idiv, w_irem, w_iand, w_ior, w_ixor, w_ishl, w_ishr, w_iushr, w_ineg, w_ladd, w_lsub, w_lmul, w_ldiv, w_lrem, w_lcmp, w_i2l, w_l2i, w_dup, w_pop, w_dup2, w_ieq, w_zeq, w_ine, w_zne, w_ilt, w_zlt, w_ige, w_zge, w_igt, w_zgt, w_ile, w_zle, w_cut, w_tsw, zsw, w_iret, w_zret, w_lret, w_vret, w_nret, w_getI, w_getJ, w_getR, w_putI, w_putZ, w_putJ, w_iald, w_zald, w_iast, w_zast, w_alen, w_sI, w_sJ, w_sV, w_vI, w_vJ, w_vV, w_tI, w_mmax, w_mmin, w_mabs, w_lmax, w_acopy, gL, sL, kl_i, kl_l, kl_r, kl_s, kl_m, qI_i, qJ_l, qA_r, qA_s, pI_i, pJ_l, pA_r, pS_s, pM_m, pV_v, c1_i, c1_r, c1_s, c1_m, cS_0, cS_i, cS_l, cS_r, cS_s, cS_m, pN, z_rc_r, zE1, zE2, zE3, true_and, and_true, Nat.zero_add, Nat.reduceAdd, Nat.reduceLeDiff, true_or, or_true, Int.reduceLE, Int.reduceLT, zcmp_l, zcmp_g, zcmp_e, zcmp_le, mo, mf0, mz0, mf1, mz1, mf2, mz2, mf6, mz6, mf10, mz10, mf11, mz11, mf12, mz12, mf13, mz13, mf14, mz14, mf16, mz16, mf17, mz17, mf18, mz18, mf19, mz19, mi3, mi7, mi8, mi9, mi15, mi4, mi5, mi20, ma125, mn125, ma126, mn126, ma127, mn127, ma128, mn128, ma129, mn129, ma130, mn130, ma131, mn131, ma132, mn132, ma133, mn133, ma134, mn134, ma135, mn135, ma136, mn136, ma137, mn137]
        rw [h.z (by omega) (by omega), h.z (j := 71 + k) (by omega) (by omega)]
        refine ⟨⟨by omega, by omega⟩, fun w => absurd w (by omega), fun _ => ?_⟩
        repeat' (with_reducible apply And.intro)
        all_goals first | omega | exact ⟨by omega, by omega⟩ | skip
        refine m_mix ⟨⟨by omega, by omega⟩, ih (k + 1) v _ (by omega) (by omega) (by omega) (hf.trans (yF.u4 (by decide))) ?_⟩
        rw [zU_s, zmix_s k0, hh]
    have l174 : ∀ (r : Nat) (k : Int) (v : AV) (D1 : Mem), (3 * s 0 54 - k).toNat = r → 0 ≤ k → k ≤ 3 * s 0 54 → yF D D1 → D1 124 20 = zmix k.toNat h3 (fun j => s 0 (55 + j)) → zW miX6_digest P 174 [zr 124, zi k, v] D1 := by
      intro r
      induction r with
      | zero =>
        intro k v D1 hr k0 k1 hf hh
        have h := (hM.s hf).1
        have ek : k = s 0 54 * 3 := by omega
        rw [ek, ← e4] at hh
        refine sX6_digest_174 _ _ _ _ _ ?_
        simp only [tX6_digest_174, w_ic, w_lc, w_lds, w_ild, w_lld, w_ald, w_ist, w_lst, w_ast, w_iinc, w_iadd, w_isub, w_imul, w_idiv, w_irem, w_iand, w_ior, w_ixor, w_ishl, w_ishr, w_iushr, w_ineg, w_ladd, w_lsub, w_lmul, w_ldiv, w_lrem, w_lcmp, w_i2l, w_l2i, w_dup, w_pop, w_dup2, w_ieq, w_zeq, w_ine, w_zne, w_ilt, w_zlt, w_ige, w_zge, w_igt, w_zgt, w_ile, w_zle, w_cut, w_tsw, zsw, w_iret, w_zret, w_lret, w_vret, w_nret, w_getI, w_getJ, w_getR, w_putI, w_putZ, w_putJ, w_iald, w_zald, w_iast, w_zast, w_alen, w_sI, w_sJ, w_sV, w_vI, w_vJ, w_vV, w_tI, w_mmax, w_mmin, w_mabs, w_lmax, w_acopy, gL, sL, kl_i, kl_l, kl_r, kl_s, kl_m, qI_i, qJ_l, qA_r, qA_s, pI_i, pJ_l, pA_r, pS_s, pM_m, pV_v, c1_i, c1_r, c1_s, c1_m, cS_0, cS_i, cS_l, cS_r, cS_s, cS_m, pN, z_rc_r, zE1, zE2, zE3, true_and, and_true, Nat.zero_add, Nat.reduceAdd, Nat.reduceLeDiff, true_or, or_true, Int.reduceLE, Int.reduceLT, zcmp_l, zcmp_g, zcmp_e, zcmp_le, mo, mf0, mz0, mf1, mz1, mf2, mz2, mf6, mz6, mf10, mz10, mf11, mz11, mf12, mz12, mf13, mz13, mf14, mz14, mf16, mz16, mf17, mz17, mf18, mz18, mf19, mz19, mi3, mi7, mi8, mi9, mi15, mi4, mi5, mi20, ma125, mn125, ma126, mn126, ma127, mn127, ma128, mn128, ma129, mn129, ma130, mn130, ma131, mn131, ma132, mn132, ma133, mn133, ma134, mn134, ma135, mn135, ma136, mn136, ma137, mn137]
        rw [h.z (by omega) (by omega)]
        refine ⟨⟨by omega, by omega⟩, fun _ => ?_, fun w => absurd (by omega) w⟩
        exact l209 _ 0 v D1 rfl (by omega) (by omega) hf hh
      | succ r ih =>
        intro k v D1 hr k0 k1 hf hh
        have h := (hM.s hf).1
        refine sX6_digest_174 _ _ _ _ _ ?_
        simp only [tX6_digest_174, w_ic, w_lc, w_lds, w_ild, w_lld, w_ald, w_ist, w_lst, w_ast, w_iinc, w_iadd, w_isub, w_imul, w_idiv, w_irem, w_iand, w_ior, w_ixor, w_ishl, w_ishr, w_iushr, w_ineg, w_ladd, w_lsub, w_lmul, w_ldiv, w_lrem, w_lcmp, w_i2l, w_l2i, w_dup, w_pop, w_dup2, w_ieq, w_zeq, w_ine, w_zne, w_ilt, w_zlt, w_ige, w_zge, w_igt, w_zgt, w_ile, w_zle, w_cut, w_tsw, zsw, w_iret, w_zret, w_lret, w_vret, w_nret, w_getI, w_getJ, w_getR, w_putI, w_putZ, w_putJ, w_iald, w_zald, w_iast, w_zast, w_alen, w_sI, w_sJ, w_sV, w_vI, w_vJ, w_vV, w_tI, w_mmax, w_mmin, w_mabs, w_lmax, w_acopy, gL, sL, kl_i, kl_l, kl_r, kl_s, kl_m, qI_i, qJ_l, qA_r, qA_s, pI_i, pJ_l, pA_r, pS_s, pM_m, pV_v, c1_i, c1_r, c1_s, c1_m, cS_0, cS_i, cS_l, cS_r, cS_s, cS_m, pN, z_rc_r, zE1, zE2, zE3, true_and, and_true, Nat.zero_add, Nat.reduceAdd, Nat.reduceLeDiff, true_or, or_true, Int.reduceLE, Int.reduceLT, zcmp_l, zcmp_g, zcmp_e, zcmp_le, mo, mf0, mz0, mf1, mz1, mf2, mz2, mf6, mz6, mf10, mz10, mf11, mz11, mf12, mz12, mf13, mz13, mf14, mz14, mf16, mz16, mf17, mz17, mf18, mz18, mf19, mz19, mi3, mi7, mi8, mi9, mi15, mi4, mi5, mi20, ma125, mn125, ma126, mn126, ma127, mn127, ma128, mn128, ma129, mn129, ma130, mn130, ma131, mn131, ma132, mn132, ma133, mn133, ma134, mn134, ma135, mn135, ma136, mn136, ma137, mn137]
        rw [h.z (by omega) (by omega), h.z (j := 55 + k) (by omega) (by omega)]
        refine ⟨⟨by omega, by omega⟩, fun w => absurd w (by omega), fun _ => ?_⟩
        repeat' (with_reducible apply And.intro)
        all_goals first | omega | exact ⟨by omega, by omega⟩ | skip
        refine m_mix ⟨⟨by omega, by omega⟩, ih (k + 1) v _ (by omega) (by omega) (by omega) (hf.trans (yF.u4 (by decide))) ?_⟩
        rw [zU_s, zmix_s k0, hh]
    have l128 : ∀ (r : Nat) (k : Int) (v : AV) (D1 : Mem), (s 0 2 - k).toNat = r → 0 ≤ k → k ≤ s 0 2 → yF D D1 → D1 124 20 = zmix (k * 2).toNat h2 (fun j => s 0 (46 + 4 * (j % 2) + j / 2)) → zW miX6_digest P 128 [zr 124, zi k, v] D1 := by
      intro r
      induction r with
      | zero =>
        intro k v D1 hr k0 k1 hf hh
        have h := (hM.s hf).1
        have ek : k = s 0 2 := by omega
        rw [ek, ← e3] at hh
        refine sX6_digest_128 _ _ _ _ _ ?_
        simp only [tX6_digest_128, w_ic, w_lc, w_lds, w_ild, w_lld, w_ald, w_ist, w_lst, w_ast, w_iinc, w_iadd, w_isub, w_imul, w_idiv, w_irem, w_iand, w_ior, w_ixor, w_ishl, w_ishr, w_iushr, w_ineg, w_ladd, w_lsub, w_lmul, w_ldiv, w_lrem, w_lcmp, w_i2l, w_l2i, w_dup, w_pop, w_dup2, w_ieq, w_zeq, w_ine, w_zne, w_ilt, w_zlt, w_ige, w_zge, w_igt, w_zgt, w_ile, w_zle, w_cut, w_tsw, zsw, w_iret, w_zret, w_lret, w_vret, w_nret, w_getI, w_getJ, w_getR, w_putI, w_putZ, w_putJ, w_iald, w_zald, w_iast, w_zast, w_alen, w_sI, w_sJ, w_sV, w_vI, w_vJ, w_vV, w_tI, w_mmax, w_mmin, w_mabs, w_lmax, w_acopy, gL, sL, kl_i, kl_l, kl_r, kl_s, kl_m, qI_i, qJ_l, qA_r, qA_s, pI_i, pJ_l, pA_r, pS_s, pM_m, pV_v, c1_i, c1_r, c1_s, c1_m, cS_0, cS_i, cS_l, cS_r, cS_s, cS_m, pN, z_rc_r, zE1, zE2, zE3, true_and, and_true, Nat.zero_add, Nat.reduceAdd, Nat.reduceLeDiff, true_or, or_true, Int.reduceLE, Int.reduceLT, zcmp_l, zcmp_g, zcmp_e, zcmp_le, mo, mf0, mz0, mf1, mz1, mf2, mz2, mf6, mz6, mf10, mz10, mf11, mz11, mf12, mz12, mf13, mz13, mf14, mz14, mf16, mz16, mf17, mz17, mf18, mz18, mf19, mz19, mi3, mi7, mi8, mi9, mi15, mi4, mi5, mi20, ma125, mn125, ma126, mn126, ma127, mn127, ma128, mn128, ma129, mn129, ma130, mn130, ma131, mn131, ma132, mn132, ma133, mn133, ma134, mn134, ma135, mn135, ma136, mn136, ma137, mn137]
        rw [h.z (by omega) (by omega)]
        refine ⟨fun _ => ?_, fun w => absurd (by omega) w⟩
        exact l174 _ 0 v D1 rfl (by omega) (by omega) hf hh
      | succ r ih =>
        intro k v D1 hr k0 k1 hf hh
        have h := (hM.s hf).1
        refine sX6_digest_128 _ _ _ _ _ ?_
        simp only [tX6_digest_128, w_ic, w_lc, w_lds, w_ild, w_lld, w_ald, w_ist, w_lst, w_ast, w_iinc, w_iadd, w_isub, w_imul, w_idiv, w_irem, w_iand, w_ior, w_ixor, w_ishl, w_ishr, w_iushr, w_ineg, w_ladd, w_lsub, w_lmul, w_ldiv, w_lrem, w_lcmp, w_i2l, w_l2i, w_dup, w_pop, w_dup2, w_ieq, w_zeq, w_ine, w_zne, w_ilt, w_zlt, w_ige, w_zge, w_igt, w_zgt, w_ile, w_zle, w_cut, w_tsw, zsw, w_iret, w_zret, w_lret, w_vret, w_nret, w_getI, w_getJ, w_getR, w_putI, w_putZ, w_putJ, w_iald, w_zald, w_iast, w_zast, w_alen, w_sI, w_sJ, w_sV, w_vI, w_vJ, w_vV, w_tI, w_mmax, w_mmin, w_mabs, w_lmax, w_acopy, gL, sL, kl_i, kl_l, kl_r, kl_s, kl_m, qI_i, qJ_l, qA_r, qA_s, pI_i, pJ_l, pA_r, pS_s, pM_m, pV_v, c1_i, c1_r, c1_s, c1_m, cS_0, cS_i, cS_l, cS_r, cS_s, cS_m, pN, z_rc_r, zE1, zE2, zE3, true_and, and_true, Nat.zero_add, Nat.reduceAdd, Nat.reduceLeDiff, true_or, or_true, Int.reduceLE, Int.reduceLT, zcmp_l, zcmp_g, zcmp_e, zcmp_le, mo, mf0, mz0, mf1, mz1, mf2, mz2, mf6, mz6, mf10, mz10, mf11, mz11, mf12, mz12, mf13, mz13, mf14, mz14, mf16, mz16, mf17, mz17, mf18, mz18, mf19, mz19, mi3, mi7, mi8, mi9, mi15, mi4, mi5, mi20, ma125, mn125, ma126, mn126, ma127, mn127, ma128, mn128, ma129, mn129, ma130, mn130, ma131, mn131, ma132, mn132, ma133, mn133, ma134, mn134, ma135, mn135, ma136, mn136, ma137, mn137]
        rw [h.z (by omega) (by omega), h.z (j := 46 + k) (by omega) (by omega)]
        refine ⟨fun w => absurd w (by omega), fun _ => ?_⟩
        repeat' (with_reducible apply And.intro)
        all_goals first | omega | exact ⟨by omega, by omega⟩ | skip
        refine m_mix ?_
        rw [zU_ne (o' := 125) (by decide), h.z (j := 50 + k) (by omega) (by omega)]
        repeat' (with_reducible apply And.intro)
        all_goals first | omega | exact ⟨by omega, by omega⟩ | skip
        refine m_mix ⟨⟨by omega, by omega⟩, ih (k + 1) v _ (by omega) (by omega) (by omega) (hf.trans ((yF.u4 (by decide)).trans (yF.u4 (by decide)))) ?_⟩
        rw [zU_s, zU_s, show (k + 1) * 2 = k * 2 + 1 + 1 by omega, zmix_s (by omega), zmix_s (by omega), hh]
        have x1 : 46 + 4 * ((k * 2) % 2) + (k * 2) / 2 = 46 + k := by omega
        have x2 : 46 + 4 * ((k * 2 + 1) % 2) + (k * 2 + 1) / 2 = 50 + k := by omega
        rw [x1, x2]
    have l78 : ∀ (r : Nat) (k : Int) (v : AV) (D1 : Mem), (s 0 1 - k).toNat = r → 0 ≤ k → k ≤ s 0 1 → yF D D1 → D1 124 20 = zmix (k * 5).toNat h1 (fun j => s 0 (16 + 6 * (j % 5) + j / 5)) → zW miX6_digest P 78 [zr 124, zi k, v] D1 := by
      intro r
      induction r with
      | zero =>
        intro k v D1 hr k0 k1 hf hh
        have h := (hM.s hf).1
        have ek : k = s 0 1 := by omega
        rw [ek, ← e2] at hh
        refine sX6_digest_78 _ _ _ _ _ ?_
        simp only [tX6_digest_78, w_ic, w_lc, w_lds, w_ild, w_lld, w_ald, w_ist, w_lst, w_ast, w_iinc, w_iadd, w_isub, w_imul, w_idiv, w_irem, w_iand, w_ior, w_ixor, w_ishl, w_ishr, w_iushr, w_ineg, w_ladd, w_lsub, w_lmul, w_ldiv, w_lrem, w_lcmp, w_i2l, w_l2i, w_dup, w_pop, w_dup2, w_ieq, w_zeq, w_ine, w_zne, w_ilt, w_zlt, w_ige, w_zge, w_igt, w_zgt, w_ile, w_zle, w_cut, w_tsw, zsw, w_iret, w_zret, w_lret, w_vret, w_nret, w_getI, w_getJ, w_getR, w_putI, w_putZ, w_putJ, w_iald, w_zald, w_iast, w_zast, w_alen, w_sI, w_sJ, w_sV, w_vI, w_vJ, w_vV, w_tI, w_mmax, w_mmin, w_mabs, w_lmax, w_acopy, gL, sL, kl_i, kl_l, kl_r, kl_s, kl_m, qI_i, qJ_l, qA_r, qA_s, pI_i, pJ_l, pA_r, pS_s, pM_m, pV_v, c1_i, c1_r, c1_s, c1_m, cS_0, cS_i, cS_l, cS_r, cS_s, cS_m, pN, z_rc_r, zE1, zE2, zE3, true_and, and_true, Nat.zero_add, Nat.reduceAdd, Nat.reduceLeDiff, true_or, or_true, Int.reduceLE, Int.reduceLT, zcmp_l, zcmp_g, zcmp_e, zcmp_le, mo, mf0, mz0, mf1, mz1, mf2, mz2, mf6, mz6, mf10, mz10, mf11, mz11, mf12, mz12, mf13, mz13, mf14, mz14, mf16, mz16, mf17, mz17, mf18, mz18, mf19, mz19, mi3, mi7, mi8, mi9, mi15, mi4, mi5, mi20, ma125, mn125, ma126, mn126, ma127, mn127, ma128, mn128, ma129, mn129, ma130, mn130, ma131, mn131, ma132, mn132, ma133, mn133, ma134, mn134, ma135, mn135, ma136, mn136, ma137, mn137]
        rw [h.z (by omega) (by omega)]
        refine ⟨fun _ => ?_, fun w => absurd (by omega) w⟩
        exact l128 _ 0 v D1 rfl (by omega) (by omega) hf hh
      | succ r ih =>
        intro k v D1 hr k0 k1 hf hh
        have h := (hM.s hf).1
        have inner : ∀ (m : Nat) (c : Int) (D2 : Mem), (5 - c).toNat = m → 0 ≤ c → c ≤ 5 → yF D D2 → D2 124 20 = zmix (k * 5 + c).toNat h1 (fun j => s 0 (16 + 6 * (j % 5) + j / 5)) → zW miX6_digest P 90 [zr 124, zi k, zi c] D2 := by
          intro m
          induction m with
          | zero =>
            intro c D2 hm c0' c1' hf2 hh2
            refine sX6_digest_90 _ _ _ _ _ ?_
            simp only [tX6_digest_90, w_ic, w_lc, w_lds, w_ild, w_lld, w_ald, w_ist, w_lst, w_ast, w_iinc, w_iadd, w_isub, w_imul, w_idiv, w_irem, w_iand, w_ior, w_ixor, w_ishl, w_ishr, w_iushr, w_ineg, w_ladd, w_lsub, w_lmul, w_ldiv, w_lrem, w_lcmp, w_i2l, w_l2i, w_dup, w_pop, w_dup2, w_ieq, w_zeq, w_ine, w_zne, w_ilt, w_zlt, w_ige, w_zge, w_igt, w_zgt, w_ile, w_zle, w_cut, w_tsw, zsw, w_iret, w_zret, w_lret, w_vret, w_nret, w_getI, w_getJ, w_getR, w_putI, w_putZ, w_putJ, w_iald, w_zald, w_iast, w_zast, w_alen, w_sI, w_sJ, w_sV, w_vI, w_vJ, w_vV, w_tI, w_mmax, w_mmin, w_mabs, w_lmax, w_acopy, gL, sL, kl_i, kl_l, kl_r, kl_s, kl_m, qI_i, qJ_l, qA_r, qA_s, pI_i, pJ_l, pA_r, pS_s, pM_m, pV_v, c1_i, c1_r, c1_s, c1_m, cS_0, cS_i, cS_l, cS_r, cS_s, cS_m, pN, z_rc_r, zE1, zE2, zE3, true_and, and_true, Nat.zero_add, Nat.reduceAdd, Nat.reduceLeDiff, true_or, or_true, Int.reduceLE, Int.reduceLT, zcmp_l, zcmp_g, zcmp_e, zcmp_le, mo, mf0, mz0, mf1, mz1, mf2, mz2, mf6, mz6, mf10, mz10, mf11, mz11, mf12, mz12, mf13, mz13, mf14, mz14, mf16, mz16, mf17, mz17, mf18, mz18, mf19, mz19, mi3, mi7, mi8, mi9, mi15, mi4, mi5, mi20, ma125, mn125, ma126, mn126, ma127, mn127, ma128, mn128, ma129, mn129, ma130, mn130, ma131, mn131, ma132, mn132, ma133, mn133, ma134, mn134, ma135, mn135, ma136, mn136, ma137, mn137]
            refine ⟨fun _ => ⟨⟨by omega, by omega⟩, ih (k + 1) (zi c) D2 (by omega) (by omega) (by omega) hf2 ?_⟩, fun w => absurd (by omega) w⟩
            rw [hh2, show k * 5 + c = (k + 1) * 5 by omega]
          | succ m ihm =>
            intro c D2 hm c0' c1' hf2 hh2
            have h2' := (hM.s hf2).1
            refine sX6_digest_90 _ _ _ _ _ ?_
            simp only [tX6_digest_90, w_ic, w_lc, w_lds, w_ild, w_lld, w_ald, w_ist, w_lst, w_ast, w_iinc, w_iadd, w_isub, w_imul, w_idiv, w_irem, w_iand, w_ior, w_ixor, w_ishl, w_ishr, w_iushr, w_ineg, w_ladd, w_lsub, w_lmul, w_ldiv, w_lrem, w_lcmp, w_i2l, w_l2i, w_dup, w_pop, w_dup2, w_ieq, w_zeq, w_ine, w_zne, w_ilt, w_zlt, w_ige, w_zge, w_igt, w_zgt, w_ile, w_zle, w_cut, w_tsw, zsw, w_iret, w_zret, w_lret, w_vret, w_nret, w_getI, w_getJ, w_getR, w_putI, w_putZ, w_putJ, w_iald, w_zald, w_iast, w_zast, w_alen, w_sI, w_sJ, w_sV, w_vI, w_vJ, w_vV, w_tI, w_mmax, w_mmin, w_mabs, w_lmax, w_acopy, gL, sL, kl_i, kl_l, kl_r, kl_s, kl_m, qI_i, qJ_l, qA_r, qA_s, pI_i, pJ_l, pA_r, pS_s, pM_m, pV_v, c1_i, c1_r, c1_s, c1_m, cS_0, cS_i, cS_l, cS_r, cS_s, cS_m, pN, z_rc_r, zE1, zE2, zE3, true_and, and_true, Nat.zero_add, Nat.reduceAdd, Nat.reduceLeDiff, true_or, or_true, Int.reduceLE, Int.reduceLT, zcmp_l, zcmp_g, zcmp_e, zcmp_le, mo, mf0, mz0, mf1, mz1, mf2, mz2, mf6, mz6, mf10, mz10, mf11, mz11, mf12, mz12, mf13, mz13, mf14, mz14, mf16, mz16, mf17, mz17, mf18, mz18, mf19, mz19, mi3, mi7, mi8, mi9, mi15, mi4, mi5, mi20, ma125, mn125, ma126, mn126, ma127, mn127, ma128, mn128, ma129, mn129, ma130, mn130, ma131, mn131, ma132, mn132, ma133, mn133, ma134, mn134, ma135, mn135, ma136, mn136, ma137, mn137]
            rw [h2'.z (j := 16 + 6 * c + k) (by omega) (by omega)]
            refine ⟨fun w => absurd w (by omega), fun _ => ?_⟩
            repeat' (with_reducible apply And.intro)
            all_goals first | omega | exact ⟨by omega, by omega⟩ | skip
            refine m_mix ⟨⟨by omega, by omega⟩, ihm (c + 1) _ (by omega) (by omega) (by omega) (hf2.trans (yF.u4 (by decide))) ?_⟩
            rw [zU_s, show k * 5 + (c + 1) = k * 5 + c + 1 by omega, zmix_s (by omega), hh2]
            have x1 : 16 + 6 * ((k * 5 + c) % 5) + (k * 5 + c) / 5 = 16 + 6 * c + k := by omega
            rw [x1]
        refine sX6_digest_78 _ _ _ _ _ ?_
        simp only [tX6_digest_78, w_ic, w_lc, w_lds, w_ild, w_lld, w_ald, w_ist, w_lst, w_ast, w_iinc, w_iadd, w_isub, w_imul, w_idiv, w_irem, w_iand, w_ior, w_ixor, w_ishl, w_ishr, w_iushr, w_ineg, w_ladd, w_lsub, w_lmul, w_ldiv, w_lrem, w_lcmp, w_i2l, w_l2i, w_dup, w_pop, w_dup2, w_ieq, w_zeq, w_ine, w_zne, w_ilt, w_zlt, w_ige, w_zge, w_igt, w_zgt, w_ile, w_zle, w_cut, w_tsw, zsw, w_iret, w_zret, w_lret, w_vret, w_nret, w_getI, w_getJ, w_getR, w_putI, w_putZ, w_putJ, w_iald, w_zald, w_iast, w_zast, w_alen, w_sI, w_sJ, w_sV, w_vI, w_vJ, w_vV, w_tI, w_mmax, w_mmin, w_mabs, w_lmax, w_acopy, gL, sL, kl_i, kl_l, kl_r, kl_s, kl_m, qI_i, qJ_l, qA_r, qA_s, pI_i, pJ_l, pA_r, pS_s, pM_m, pV_v, c1_i, c1_r, c1_s, c1_m, cS_0, cS_i, cS_l, cS_r, cS_s, cS_m, pN, z_rc_r, zE1, zE2, zE3, true_and, and_true, Nat.zero_add, Nat.reduceAdd, Nat.reduceLeDiff, true_or, or_true, Int.reduceLE, Int.reduceLT, zcmp_l, zcmp_g, zcmp_e, zcmp_le, mo, mf0, mz0, mf1, mz1, mf2, mz2, mf6, mz6, mf10, mz10, mf11, mz11, mf12, mz12, mf13, mz13, mf14, mz14, mf16, mz16, mf17, mz17, mf18, mz18, mf19, mz19, mi3, mi7, mi8, mi9, mi15, mi4, mi5, mi20, ma125, mn125, ma126, mn126, ma127, mn127, ma128, mn128, ma129, mn129, ma130, mn130, ma131, mn131, ma132, mn132, ma133, mn133, ma134, mn134, ma135, mn135, ma136, mn136, ma137, mn137]
        rw [h.z (by omega) (by omega)]
        refine ⟨fun w => absurd w (by omega), fun _ => inner 5 0 D1 rfl (by omega) (by omega) hf (by rw [Int.add_zero]; exact hh)⟩
    have l33 : ∀ (r : Nat) (k : Int) (v : AV) (D1 : Mem), (s 0 0 - k).toNat = r → 0 ≤ k → k ≤ s 0 0 → yF D D1 → D1 124 20 = zmix (k * 2).toNat h0 (fun j => s 0 (4 + 6 * (j % 2) + j / 2)) → zW miX6_digest P 33 [zr 124, zi k, v] D1 := by
      intro r
      induction r with
      | zero =>
        intro k v D1 hr k0 k1 hf hh
        have h := (hM.s hf).1
        have ek : k = s 0 0 := by omega
        rw [ek, ← e1] at hh
        refine sX6_digest_33 _ _ _ _ _ ?_
        simp only [tX6_digest_33, w_ic, w_lc, w_lds, w_ild, w_lld, w_ald, w_ist, w_lst, w_ast, w_iinc, w_iadd, w_isub, w_imul, w_idiv, w_irem, w_iand, w_ior, w_ixor, w_ishl, w_ishr, w_iushr, w_ineg, w_ladd, w_lsub, w_lmul, w_ldiv, w_lrem, w_lcmp, w_i2l, w_l2i, w_dup, w_pop, w_dup2, w_ieq, w_zeq, w_ine, w_zne, w_ilt, w_zlt, w_ige, w_zge, w_igt, w_zgt, w_ile, w_zle, w_cut, w_tsw, zsw, w_iret, w_zret, w_lret, w_vret, w_nret, w_getI, w_getJ, w_getR, w_putI, w_putZ, w_putJ, w_iald, w_zald, w_iast, w_zast, w_alen, w_sI, w_sJ, w_sV, w_vI, w_vJ, w_vV, w_tI, w_mmax, w_mmin, w_mabs, w_lmax, w_acopy, gL, sL, kl_i, kl_l, kl_r, kl_s, kl_m, qI_i, qJ_l, qA_r, qA_s, pI_i, pJ_l, pA_r, pS_s, pM_m, pV_v, c1_i, c1_r, c1_s, c1_m, cS_0, cS_i, cS_l, cS_r, cS_s, cS_m, pN, z_rc_r, zE1, zE2, zE3, true_and, and_true, Nat.zero_add, Nat.reduceAdd, Nat.reduceLeDiff, true_or, or_true, Int.reduceLE, Int.reduceLT, zcmp_l, zcmp_g, zcmp_e, zcmp_le, mo, mf0, mz0, mf1, mz1, mf2, mz2, mf6, mz6, mf10, mz10, mf11, mz11, mf12, mz12, mf13, mz13, mf14, mz14, mf16, mz16, mf17, mz17, mf18, mz18, mf19, mz19, mi3, mi7, mi8, mi9, mi15, mi4, mi5, mi20, ma125, mn125, ma126, mn126, ma127, mn127, ma128, mn128, ma129, mn129, ma130, mn130, ma131, mn131, ma132, mn132, ma133, mn133, ma134, mn134, ma135, mn135, ma136, mn136, ma137, mn137]
        rw [h.z (by omega) (by omega)]
        refine ⟨fun _ => ?_, fun w => absurd (by omega) w⟩
        exact l78 _ 0 v D1 rfl (by omega) (by omega) hf hh
      | succ r ih =>
        intro k v D1 hr k0 k1 hf hh
        have h := (hM.s hf).1
        refine sX6_digest_33 _ _ _ _ _ ?_
        simp only [tX6_digest_33, w_ic, w_lc, w_lds, w_ild, w_lld, w_ald, w_ist, w_lst, w_ast, w_iinc, w_iadd, w_isub, w_imul, w_idiv, w_irem, w_iand, w_ior, w_ixor, w_ishl, w_ishr, w_iushr, w_ineg, w_ladd, w_lsub, w_lmul, w_ldiv, w_lrem, w_lcmp, w_i2l, w_l2i, w_dup, w_pop, w_dup2, w_ieq, w_zeq, w_ine, w_zne, w_ilt, w_zlt, w_ige, w_zge, w_igt, w_zgt, w_ile, w_zle, w_cut, w_tsw, zsw, w_iret, w_zret, w_lret, w_vret, w_nret, w_getI, w_getJ, w_getR, w_putI, w_putZ, w_putJ, w_iald, w_zald, w_iast, w_zast, w_alen, w_sI, w_sJ, w_sV, w_vI, w_vJ, w_vV, w_tI, w_mmax, w_mmin, w_mabs, w_lmax, w_acopy, gL, sL, kl_i, kl_l, kl_r, kl_s, kl_m, qI_i, qJ_l, qA_r, qA_s, pI_i, pJ_l, pA_r, pS_s, pM_m, pV_v, c1_i, c1_r, c1_s, c1_m, cS_0, cS_i, cS_l, cS_r, cS_s, cS_m, pN, z_rc_r, zE1, zE2, zE3, true_and, and_true, Nat.zero_add, Nat.reduceAdd, Nat.reduceLeDiff, true_or, or_true, Int.reduceLE, Int.reduceLT, zcmp_l, zcmp_g, zcmp_e, zcmp_le, mo, mf0, mz0, mf1, mz1, mf2, mz2, mf6, mz6, mf10, mz10, mf11, mz11, mf12, mz12, mf13, mz13, mf14, mz14, mf16, mz16, mf17, mz17, mf18, mz18, mf19, mz19, mi3, mi7, mi8, mi9, mi15, mi4, mi5, mi20, ma125, mn125, ma126, mn126, ma127, mn127, ma128, mn128, ma129, mn129, ma130, mn130, ma131, mn131, ma132, mn132, ma133, mn133, ma134, mn134, ma135, mn135, ma136, mn136, ma137, mn137]
        rw [h.z (by omega) (by omega), h.z (j := 4 + k) (by omega) (by omega)]
        refine ⟨fun w => absurd w (by omega), fun _ => ?_⟩
        repeat' (with_reducible apply And.intro)
        all_goals first | omega | exact ⟨by omega, by omega⟩ | skip
        refine m_mix ?_
        rw [zU_ne (o' := 125) (by decide), h.z (j := 10 + k) (by omega) (by omega)]
        repeat' (with_reducible apply And.intro)
        all_goals first | omega | exact ⟨by omega, by omega⟩ | skip
        refine m_mix ⟨⟨by omega, by omega⟩, ih (k + 1) v _ (by omega) (by omega) (by omega) (hf.trans ((yF.u4 (by decide)).trans (yF.u4 (by decide)))) ?_⟩
        rw [zU_s, zU_s, show (k + 1) * 2 = k * 2 + 1 + 1 by omega, zmix_s (by omega), zmix_s (by omega), hh]
        have x1 : 4 + 6 * ((k * 2) % 2) + (k * 2) / 2 = 4 + k := by omega
        have x2 : 4 + 6 * ((k * 2 + 1) % 2) + (k * 2 + 1) / 2 = 10 + k := by omega
        rw [x1, x2]
    have l9 : ∀ (r : Nat) (k : Int) (v : AV) (D1 : Mem), (10 - k).toNat = r → 0 ≤ k → k ≤ 10 → yF D D1 → D1 124 20 = zmix k.toNat 1601 (sHow s) → zW miX6_digest P 9 [zr 124, zi k, v] D1 := by
      intro r
      induction r with
      | zero =>
        intro k v D1 hr k0 k1 hf hh
        have ek : k = 10 := by omega
        rw [ek, show (10 : Int).toNat = 10 from rfl, ← e0] at hh
        refine sX6_digest_9 _ _ _ _ _ ?_
        simp only [tX6_digest_9, w_ic, w_lc, w_lds, w_ild, w_lld, w_ald, w_ist, w_lst, w_ast, w_iinc, w_iadd, w_isub, w_imul, w_idiv, w_irem, w_iand, w_ior, w_ixor, w_ishl, w_ishr, w_iushr, w_ineg, w_ladd, w_lsub, w_lmul, w_ldiv, w_lrem, w_lcmp, w_i2l, w_l2i, w_dup, w_pop, w_dup2, w_ieq, w_zeq, w_ine, w_zne, w_ilt, w_zlt, w_ige, w_zge, w_igt, w_zgt, w_ile, w_zle, w_cut, w_tsw, zsw, w_iret, w_zret, w_lret, w_vret, w_nret, w_getI, w_getJ, w_getR, w_putI, w_putZ, w_putJ, w_iald, w_zald, w_iast, w_zast, w_alen, w_sI, w_sJ, w_sV, w_vI, w_vJ, w_vV, w_tI, w_mmax, w_mmin, w_mabs, w_lmax, w_acopy, gL, sL, kl_i, kl_l, kl_r, kl_s, kl_m, qI_i, qJ_l, qA_r, qA_s, pI_i, pJ_l, pA_r, pS_s, pM_m, pV_v, c1_i, c1_r, c1_s, c1_m, cS_0, cS_i, cS_l, cS_r, cS_s, cS_m, pN, z_rc_r, zE1, zE2, zE3, true_and, and_true, Nat.zero_add, Nat.reduceAdd, Nat.reduceLeDiff, true_or, or_true, Int.reduceLE, Int.reduceLT, zcmp_l, zcmp_g, zcmp_e, zcmp_le, mo, mf0, mz0, mf1, mz1, mf2, mz2, mf6, mz6, mf10, mz10, mf11, mz11, mf12, mz12, mf13, mz13, mf14, mz14, mf16, mz16, mf17, mz17, mf18, mz18, mf19, mz19, mi3, mi7, mi8, mi9, mi15, mi4, mi5, mi20, ma125, mn125, ma126, mn126, ma127, mn127, ma128, mn128, ma129, mn129, ma130, mn130, ma131, mn131, ma132, mn132, ma133, mn133, ma134, mn134, ma135, mn135, ma136, mn136, ma137, mn137]
        exact ⟨fun _ => l33 _ 0 v D1 rfl (by omega) (by omega) hf hh, fun w => absurd (by omega) w⟩
      | succ r ih =>
        intro k v D1 hr k0 k1 hf hh
        refine sX6_digest_9 _ _ _ _ _ ?_
        simp only [tX6_digest_9, w_ic, w_lc, w_lds, w_ild, w_lld, w_ald, w_ist, w_lst, w_ast, w_iinc, w_iadd, w_isub, w_imul, w_idiv, w_irem, w_iand, w_ior, w_ixor, w_ishl, w_ishr, w_iushr, w_ineg, w_ladd, w_lsub, w_lmul, w_ldiv, w_lrem, w_lcmp, w_i2l, w_l2i, w_dup, w_pop, w_dup2, w_ieq, w_zeq, w_ine, w_zne, w_ilt, w_zlt, w_ige, w_zge, w_igt, w_zgt, w_ile, w_zle, w_cut, w_tsw, zsw, w_iret, w_zret, w_lret, w_vret, w_nret, w_getI, w_getJ, w_getR, w_putI, w_putZ, w_putJ, w_iald, w_zald, w_iast, w_zast, w_alen, w_sI, w_sJ, w_sV, w_vI, w_vJ, w_vV, w_tI, w_mmax, w_mmin, w_mabs, w_lmax, w_acopy, gL, sL, kl_i, kl_l, kl_r, kl_s, kl_m, qI_i, qJ_l, qA_r, qA_s, pI_i, pJ_l, pA_r, pS_s, pM_m, pV_v, c1_i, c1_r, c1_s, c1_m, cS_0, cS_i, cS_l, cS_r, cS_s, cS_m, pN, z_rc_r, zE1, zE2, zE3, true_and, and_true, Nat.zero_add, Nat.reduceAdd, Nat.reduceLeDiff, true_or, or_true, Int.reduceLE, Int.reduceLT, zcmp_l, zcmp_g, zcmp_e, zcmp_le, mo, mf0, mz0, mf1, mz1, mf2, mz2, mf6, mz6, mf10, mz10, mf11, mz11, mf12, mz12, mf13, mz13, mf14, mz14, mf16, mz16, mf17, mz17, mf18, mz18, mf19, mz19, mi3, mi7, mi8, mi9, mi15, mi4, mi5, mi20, ma125, mn125, ma126, mn126, ma127, mn127, ma128, mn128, ma129, mn129, ma130, mn130, ma131, mn131, ma132, mn132, ma133, mn133, ma134, mn134, ma135, mn135, ma136, mn136, ma137, mn137]
        refine ⟨fun w => absurd w (by omega), fun _ => ?_⟩
        refine m_countOf (hM.s hf) hW k0 (by omega) ?_
        refine m_mix ⟨⟨by omega, by omega⟩, ih (k + 1) v _ (by omega) (by omega) (by omega) (hf.trans (yF.u4 (by decide))) ?_⟩
        rw [zU_s, zmix_s k0, hh]
    exact l9 10 0 _ _ rfl (by omega) (by omega) (yF.u4 (by decide)) zU_s
  refine e_X6_digest ?_
  simp only [tX6_digest_0, w_ic, w_lc, w_lds, w_ild, w_lld, w_ald, w_ist, w_lst, w_ast, w_iinc, w_iadd, w_isub, w_imul, w_idiv, w_irem, w_iand, w_ior, w_ixor, w_ishl, w_ishr, w_iushr, w_ineg, w_ladd, w_lsub, w_lmul, w_ldiv, w_lrem, w_lcmp, w_i2l, w_l2i, w_dup, w_pop, w_dup2, w_ieq, w_zeq, w_ine, w_zne, w_ilt, w_zlt, w_ige, w_zge, w_igt, w_zgt, w_ile, w_zle, w_cut, w_tsw, zsw, w_iret, w_zret, w_lret, w_vret, w_nret, w_getI, w_getJ, w_getR, w_putI, w_putZ, w_putJ, w_iald, w_zald, w_iast, w_zast, w_alen, w_sI, w_sJ, w_sV, w_vI, w_vJ, w_vV, w_tI, w_mmax, w_mmin, w_mabs, w_lmax, w_acopy, gL, sL, kl_i, kl_l, kl_r, kl_s, kl_m, qI_i, qJ_l, qA_r, qA_s, pI_i, pJ_l, pA_r, pS_s, pM_m, pV_v, c1_i, c1_r, c1_s, c1_m, cS_0, cS_i, cS_l, cS_r, cS_s, cS_m, pN, z_rc_r, zE1, zE2, zE3, true_and, and_true, Nat.zero_add, Nat.reduceAdd, Nat.reduceLeDiff, true_or, or_true, Int.reduceLE, Int.reduceLT, zcmp_l, zcmp_g, zcmp_e, zcmp_le, mo, mf0, mz0, mf1, mz1, mf2, mz2, mf6, mz6, mf10, mz10, mf11, mz11, mf12, mz12, mf13, mz13, mf14, mz14, mf16, mz16, mf17, mz17, mf18, mz18, mf19, mz19, mi3, mi7, mi8, mi9, mi15, mi4, mi5, mi20, ma125, mn125, ma126, mn126, ma127, mn127, ma128, mn128, ma129, mn129, ma130, mn130, ma131, mn131, ma132, mn132, ma133, mn133, ma134, mn134, ma135, mn135, ma136, mn136, ma137, mn137]
  exact main
