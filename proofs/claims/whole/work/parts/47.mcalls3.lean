/-! ===== 47: the model: minutes, what may be undone, what is asked of one ===== -/
theorem m_minds {a : Int → Int} {D : Mem} {P : Int → Mem → Prop} (h : yR D 0 a) (n7 : 0 ≤ a 120 ∧ a 120 ≤ 8) (hP : ∀ D', yE 0 D D' → yR D' 0 (sMinds a) → P 0 D') : zC miX6_minds [zr 124] D P := by
  have tail : ∀ (b : Int → Int) (m : Nat) (k : Int) (D1 : Mem), (6 - k).toNat = m → 0 ≤ k → k ≤ 6 → (0 ≤ b 120 ∧ b 120 < 8) → sMinds a = sMind b → yE 0 D D1 → (∀ j, 0 ≤ j → j < 273 → D1 125 j = if j = 121 + 19 * b 120 then b 3 else if 122 + 19 * b 120 ≤ j ∧ j < 122 + 19 * b 120 + k then b (9 + (j - (121 + 19 * b 120))) else if 128 + 19 * b 120 ≤ j ∧ j < 128 + 19 * b 120 + k then b (27 + (j - (121 + 19 * b 120))) else if 134 + 19 * b 120 ≤ j ∧ j < 134 + 19 * b 120 + k then b (27 + (j - (121 + 19 * b 120))) else b j) → zW miX6_minds P 87 [zr 124, zi (121 + 19 * b 120), zi k] D1 := by
    intro b m
    induction m with
    | zero =>
      intro k D1 hm k0 k1 hb hs hf hv
      have e120 := hv 120 (by omega) (by omega)
      rw [if_neg (by omega), if_neg (by omega), if_neg (by omega), if_neg (by omega)] at e120
      have hR : yR D1 0 (sRec b (121 + 19 * b 120)) := by
        intro j p q
        rw [Int.zero_add, hv j p q, show k = 6 by omega]
        unfold sRec
        repeat' split
        all_goals first | rfl | (exfalso; omega)
      refine sX6_minds_87 _ _ _ _ _ ?_
      simp only [tX6_minds_87, w_ic, w_lc, w_lds, w_ild, w_lld, w_ald, w_ist, w_lst, w_ast, w_iinc, w_iadd, w_isub, w_imul, w_idiv, w_irem, w_iand, w_ior, w_ixor, w_ishl, w_ishr, w_iushr, w_ineg, w_ladd, w_lsub, w_lmul, w_ldiv, w_lrem, w_lcmp, w_i2l, w_l2i, w_dup, w_pop, w_dup2, w_ieq, w_zeq, w_ine, w_zne, w_ilt, w_zlt, w_ige, w_zge, w_igt, w_zgt, w_ile, w_zle, w_cut, w_tsw, zsw, w_iret, w_zret, w_lret, w_vret, w_nret, w_getI, w_getJ, w_getR, w_putI, w_putZ, w_putJ, w_iald, w_zald, w_iast, w_zast, w_alen, w_sI, w_sJ, w_sV, w_vI, w_vJ, w_vV, w_tI, w_mmax, w_mmin, w_mabs, w_lmax, w_acopy, gL, sL, kl_i, kl_l, kl_r, kl_s, kl_m, qI_i, qJ_l, qA_r, qA_s, pI_i, pJ_l, pA_r, pS_s, pM_m, pV_v, c1_i, c1_r, c1_s, c1_m, cS_0, cS_i, cS_l, cS_r, cS_s, cS_m, pN, z_rc_r, zE1, zE2, zE3, true_and, and_true, Nat.zero_add, Nat.reduceAdd, Nat.reduceLeDiff, true_or, or_true, Int.reduceLE, Int.reduceLT, zcmp_l, zcmp_g, zcmp_e, zcmp_le, mo, mf0, mz0, mf1, mz1, mf2, mz2, mf6, mz6, mf10, mz10, mf11, mz11, mf12, mz12, mf13, mz13, mf14, mz14, mf16, mz16, mf17, mz17, mf18, mz18, mf19, mz19, mi3, mi7, mi8, mi9, mi15, mi4, mi5, mi20, ma125, mn125, ma126, mn126, ma127, mn127, ma128, mn128, ma129, mn129, ma130, mn130, ma131, mn131, ma132, mn132, ma133, mn133, ma134, mn134, ma135, mn135, ma136, mn136, ma137, mn137]
      rw [e120]
      refine ⟨fun _ => ⟨⟨by omega, by omega⟩, hP _ (hf.trans (yE.up (by omega) (by omega))) ?_⟩, fun w => absurd (by omega) w⟩
      rw [hs]
      exact hR.up (by omega)
    | succ m ih =>
      intro k D1 hm k0 k1 hb hs hf hv
      have r1 := hv (10 + k) (by omega) (by omega)
      have r2 := hv (34 + k) (by omega) (by omega)
      have r3 := hv (40 + k) (by omega) (by omega)
      rw [if_neg (by omega), if_neg (by omega), if_neg (by omega), if_neg (by omega)] at r1 r2 r3
      refine sX6_minds_87 _ _ _ _ _ ?_
      simp only [tX6_minds_87, w_ic, w_lc, w_lds, w_ild, w_lld, w_ald, w_ist, w_lst, w_ast, w_iinc, w_iadd, w_isub, w_imul, w_idiv, w_irem, w_iand, w_ior, w_ixor, w_ishl, w_ishr, w_iushr, w_ineg, w_ladd, w_lsub, w_lmul, w_ldiv, w_lrem, w_lcmp, w_i2l, w_l2i, w_dup, w_pop, w_dup2, w_ieq, w_zeq, w_ine, w_zne, w_ilt, w_zlt, w_ige, w_zge, w_igt, w_zgt, w_ile, w_zle, w_cut, w_tsw, zsw, w_iret, w_zret, w_lret, w_vret, w_nret, w_getI, w_getJ, w_getR, w_putI, w_putZ, w_putJ, w_iald, w_zald, w_iast, w_zast, w_alen, w_sI, w_sJ, w_sV, w_vI, w_vJ, w_vV, w_tI, w_mmax, w_mmin, w_mabs, w_lmax, w_acopy, gL, sL, kl_i, kl_l, kl_r, kl_s, kl_m, qI_i, qJ_l, qA_r, qA_s, pI_i, pJ_l, pA_r, pS_s, pM_m, pV_v, c1_i, c1_r, c1_s, c1_m, cS_0, cS_i, cS_l, cS_r, cS_s, cS_m, pN, z_rc_r, zE1, zE2, zE3, true_and, and_true, Nat.zero_add, Nat.reduceAdd, Nat.reduceLeDiff, true_or, or_true, Int.reduceLE, Int.reduceLT, zcmp_l, zcmp_g, zcmp_e, zcmp_le, mo, mf0, mz0, mf1, mz1, mf2, mz2, mf6, mz6, mf10, mz10, mf11, mz11, mf12, mz12, mf13, mz13, mf14, mz14, mf16, mz16, mf17, mz17, mf18, mz18, mf19, mz19, mi3, mi7, mi8, mi9, mi15, mi4, mi5, mi20, ma125, mn125, ma126, mn126, ma127, mn127, ma128, mn128, ma129, mn129, ma130, mn130, ma131, mn131, ma132, mn132, ma133, mn133, ma134, mn134, ma135, mn135, ma136, mn136, ma137, mn137]
      rw [r1, zU_k (D := D1) (k' := 34 + k) (by omega), r2, zU_k (k' := 40 + k) (by omega), zU_k (k' := 40 + k) (by omega), r3]
      refine ⟨fun w => absurd w (by omega), fun _ => ?_⟩
      repeat' (with_reducible apply And.intro)
      all_goals first | omega | exact ⟨by omega, by omega⟩ | skip
      refine ih (k + 1) _ (by omega) (by omega) (by omega) hb hs (hf.trans ((yE.up (by omega) (by omega)).trans ((yE.up (by omega) (by omega)).trans (yE.up (by omega) (by omega))))) fun j p q => ?_
      by_cases g1 : j = 122 + 19 * b 120 + k
      · rw [zU_k (by omega), zU_k (by omega), g1, show 122 + 19 * b 120 + k = 121 + 19 * b 120 + 1 + k by omega, zU_s, if_neg (by omega), if_pos (by omega)]
        congr 1; omega
      · by_cases g2 : j = 128 + 19 * b 120 + k
        · rw [zU_k (by omega), g2, show 128 + 19 * b 120 + k = 121 + 19 * b 120 + 7 + k by omega, zU_s, if_neg (by omega), if_neg (by omega), if_pos (by omega)]
          congr 1; omega
        · by_cases g3 : j = 134 + 19 * b 120 + k
          · rw [g3, show 134 + 19 * b 120 + k = 121 + 19 * b 120 + 13 + k by omega, zU_s, if_neg (by omega), if_neg (by omega), if_neg (by omega), if_pos (by omega)]
            congr 1; omega
          · rw [zU_k (by omega), zU_k (by omega), zU_k (by omega), hv j p q]
            repeat' split
            all_goals first | rfl | (exfalso; omega)
  have start : ∀ (b : Int → Int) (D1 : Mem), (0 ≤ b 120 ∧ b 120 < 8) → sMinds a = sMind b → yE 0 D D1 → yR D1 0 b → zW miX6_minds P 87 [zr 124, zi (121 + 19 * b 120), zi 0] (zU D1 125 (121 + 19 * b 120) (D1 125 3)) := by
    intro b D1 hb hs hf hR
    refine tail b 6 0 _ rfl (by omega) (by omega) hb hs (hf.trans (yE.up (by omega) (by omega))) fun j p q => ?_
    by_cases g : j = 121 + 19 * b 120
    · rw [if_pos g, g, zU_s, hR.z (by omega) (by omega)]
    · rw [if_neg g, if_neg (by omega), if_neg (by omega), if_neg (by omega), zU_k g, hR.z p q]
  have shift : ∀ (m : Nat) (k : Int) (v : AV) (D1 : Mem), (133 - k).toNat = m → 0 ≤ k → k ≤ 133 → a 120 = 8 → yE 0 D D1 → (∀ j, 0 ≤ j → j < 273 → D1 125 j = if 121 ≤ j ∧ j < 121 + k then a (j + 19) else a j) → zW miX6_minds P 14 [zr 124, zi k, v] D1 := by
    intro m
    induction m with
    | zero =>
      intro k v D1 hm k0 k1 h8 hf hv
      have e120 := hv 120 (by omega) (by omega)
      rw [if_neg (by omega)] at e120
      have hR : yR (zU D1 125 120 7) 0 (sShift a) := by
        intro j p q
        rw [Int.zero_add]
        unfold sShift
        by_cases g : j = 120
        · rw [g, zU_s, if_neg (by omega), if_pos rfl]
        · rw [zU_k g, hv j p q]
          by_cases g2 : 121 ≤ j ∧ j < 121 + k
          · rw [if_pos g2, if_pos (by omega)]
          · rw [if_neg g2, if_neg (by omega), if_neg g]
      refine sX6_minds_14 _ _ _ _ _ ?_
      simp only [tX6_minds_14, w_ic, w_lc, w_lds, w_ild, w_lld, w_ald, w_ist, w_lst, w_ast, w_iinc, w_iadd, w_isub, w_imul, w_idiv, w_irem, w_iand, w_ior, w_ixor, w_ishl, w_ishr, w_iushr, w_ineg, w_ladd, w_lsub, w_lmul, w_ldiv, w_lrem, w_lcmp, w_i2l, w_l2i, w_dup, w_pop, w_dup2, w_ieq, w_zeq, w_ine, w_zne, w_ilt, w_zlt, w_ige, w_zge, w_igt, w_zgt, w_ile, w_zle, w_cut, w_tsw, zsw, w_iret, w_zret, w_lret, w_vret, w_nret, w_getI, w_getJ, w_getR, w_putI, w_putZ, w_putJ, w_iald, w_zald, w_iast, w_zast, w_alen, w_sI, w_sJ, w_sV, w_vI, w_vJ, w_vV, w_tI, w_mmax, w_mmin, w_mabs, w_lmax, w_acopy, gL, sL, kl_i, kl_l, kl_r, kl_s, kl_m, qI_i, qJ_l, qA_r, qA_s, pI_i, pJ_l, pA_r, pS_s, pM_m, pV_v, c1_i, c1_r, c1_s, c1_m, cS_0, cS_i, cS_l, cS_r, cS_s, cS_m, pN, z_rc_r, zE1, zE2, zE3, true_and, and_true, Nat.zero_add, Nat.reduceAdd, Nat.reduceLeDiff, true_or, or_true, Int.reduceLE, Int.reduceLT, zcmp_l, zcmp_g, zcmp_e, zcmp_le, mo, mf0, mz0, mf1, mz1, mf2, mz2, mf6, mz6, mf10, mz10, mf11, mz11, mf12, mz12, mf13, mz13, mf14, mz14, mf16, mz16, mf17, mz17, mf18, mz18, mf19, mz19, mi3, mi7, mi8, mi9, mi15, mi4, mi5, mi20, ma125, mn125, ma126, mn126, ma127, mn127, ma128, mn128, ma129, mn129, ma130, mn130, ma131, mn131, ma132, mn132, ma133, mn133, ma134, mn134, ma135, mn135, ma136, mn136, ma137, mn137]
      rw [e120, h8]
      have hc : sShift a 120 = 7 := sShift_c
      have := start (sShift a) _ (by omega) (by unfold sMinds; rw [if_pos h8]) (hf.trans (yE.up (by omega) (by omega))) hR
      rw [hc] at this
      have e7 : (8 : Int) - 1 = 7 := rfl
      rw [e7, zU_s]
      refine ⟨fun _ => ?_, fun w => absurd (by omega) w⟩
      repeat' (with_reducible apply And.intro)
      all_goals first | omega | exact ⟨by omega, by omega⟩ | skip
    | succ m ih =>
      intro k v D1 hm k0 k1 h8 hf hv
      have r1 := hv (121 + k + 19) (by omega) (by omega)
      rw [if_neg (by omega)] at r1
      refine sX6_minds_14 _ _ _ _ _ ?_
      simp only [tX6_minds_14, w_ic, w_lc, w_lds, w_ild, w_lld, w_ald, w_ist, w_lst, w_ast, w_iinc, w_iadd, w_isub, w_imul, w_idiv, w_irem, w_iand, w_ior, w_ixor, w_ishl, w_ishr, w_iushr, w_ineg, w_ladd, w_lsub, w_lmul, w_ldiv, w_lrem, w_lcmp, w_i2l, w_l2i, w_dup, w_pop, w_dup2, w_ieq, w_zeq, w_ine, w_zne, w_ilt, w_zlt, w_ige, w_zge, w_igt, w_zgt, w_ile, w_zle, w_cut, w_tsw, zsw, w_iret, w_zret, w_lret, w_vret, w_nret, w_getI, w_getJ, w_getR, w_putI, w_putZ, w_putJ, w_iald, w_zald, w_iast, w_zast, w_alen, w_sI, w_sJ, w_sV, w_vI, w_vJ, w_vV, w_tI, w_mmax, w_mmin, w_mabs, w_lmax, w_acopy, gL, sL, kl_i, kl_l, kl_r, kl_s, kl_m, qI_i, qJ_l, qA_r, qA_s, pI_i, pJ_l, pA_r, pS_s, pM_m, pV_v, c1_i, c1_r, c1_s, c1_m, cS_0, cS_i, cS_l, cS_r, cS_s, cS_m, pN, z_rc_r, zE1, zE2, zE3, true_and, and_true, Nat.zero_add, Nat.reduceAdd, Nat.reduceLeDiff, true_or, or_true, Int.reduceLE, Int.reduceLT, zcmp_l, zcmp_g, zcmp_e, zcmp_le, mo, mf0, mz0, mf1, mz1, mf2, mz2, mf6, mz6, mf10, mz10, mf11, mz11, mf12, mz12, mf13, mz13, mf14, mz14, mf16, mz16, mf17, mz17, mf18, mz18, mf19, mz19, mi3, mi7, mi8, mi9, mi15, mi4, mi5, mi20, ma125, mn125, ma126, mn126, ma127, mn127, ma128, mn128, ma129, mn129, ma130, mn130, ma131, mn131, ma132, mn132, ma133, mn133, ma134, mn134, ma135, mn135, ma136, mn136, ma137, mn137]
      rw [r1]
      refine ⟨fun w => absurd w (by omega), fun _ => ?_⟩
      repeat' (with_reducible apply And.intro)
      all_goals first | omega | exact ⟨by omega, by omega⟩ | skip
      refine ih (k + 1) _ _ (by omega) (by omega) (by omega) h8 (hf.trans (yE.up (by omega) (by omega))) fun j p q => ?_
      by_cases g : j = 121 + k
      · rw [g, zU_s, if_pos (by omega)]
      · rw [zU_k g, hv j p q]
        by_cases g2 : 121 ≤ j ∧ j < 121 + k
        · rw [if_pos g2, if_pos (by omega)]
        · rw [if_neg g2, if_neg (by omega)]
  refine e_X6_minds ?_
  simp only [tX6_minds_0, w_ic, w_lc, w_lds, w_ild, w_lld, w_ald, w_ist, w_lst, w_ast, w_iinc, w_iadd, w_isub, w_imul, w_idiv, w_irem, w_iand, w_ior, w_ixor, w_ishl, w_ishr, w_iushr, w_ineg, w_ladd, w_lsub, w_lmul, w_ldiv, w_lrem, w_lcmp, w_i2l, w_l2i, w_dup, w_pop, w_dup2, w_ieq, w_zeq, w_ine, w_zne, w_ilt, w_zlt, w_ige, w_zge, w_igt, w_zgt, w_ile, w_zle, w_cut, w_tsw, zsw, w_iret, w_zret, w_lret, w_vret, w_nret, w_getI, w_getJ, w_getR, w_putI, w_putZ, w_putJ, w_iald, w_zald, w_iast, w_zast, w_alen, w_sI, w_sJ, w_sV, w_vI, w_vJ, w_vV, w_tI, w_mmax, w_mmin, w_mabs, w_lmax, w_acopy, gL, sL, kl_i, kl_l, kl_r, kl_s, kl_m, qI_i, qJ_l, qA_r, qA_s, pI_i, pJ_l, pA_r, pS_s, pM_m, pV_v, c1_i, c1_r, c1_s, c1_m, cS_0, cS_i, cS_l, cS_r, cS_s, cS_m, pN, z_rc_r, zE1, zE2, zE3, true_and, and_true, Nat.zero_add, Nat.reduceAdd, Nat.reduceLeDiff, true_or, or_true, Int.reduceLE, Int.reduceLT, zcmp_l, zcmp_g, zcmp_e, zcmp_le, mo, mf0, mz0, mf1, mz1, mf2, mz2, mf6, mz6, mf10, mz10, mf11, mz11, mf12, mz12, mf13, mz13, mf14, mz14, mf16, mz16, mf17, mz17, mf18, mz18, mf19, mz19, mi3, mi7, mi8, mi9, mi15, mi4, mi5, mi20, ma125, mn125, ma126, mn126, ma127, mn127, ma128, mn128, ma129, mn129, ma130, mn130, ma131, mn131, ma132, mn132, ma133, mn133, ma134, mn134, ma135, mn135, ma136, mn136, ma137, mn137]
  rw [h.z (by omega) (by omega)]
  refine ⟨fun q => ?_, fun q => ?_⟩
  · skip
    repeat' (with_reducible apply And.intro)
    all_goals first | omega | exact ⟨by omega, by omega⟩ | skip
    exact start a D (by omega) (by unfold sMinds; rw [if_neg q]) yE.rfl h
  · exact shift 133 0 _ D rfl (by omega) (by omega) (Decidable.not_not.mp q) yE.rfl fun j p q => by rw [if_neg (by omega)]; exact h.z p q
theorem yQ.r {D D' : Mem} {a b : Int → Int} (h : yR D 0 a) (f : ∀ j : Int, 54 ≤ j → D' 125 j = D 125 j) (hq : yQ D' 0 b) (hb : ∀ j, 54 ≤ j → b j = a j) : yR D' 0 b := by
  intro j p q
  by_cases g : j < 54
  · exact hq j p g
  · rw [hb j (by omega), f _ (by omega)]
    exact h j p q
theorem m_pass0 {M : Int} {a : Int → Int} {D : Mem} {P : Int → Mem → Prop} (h : yR D 0 a) (hw : WA M a) (hM : M ≤ 30000) (hP : ∀ D', yN D D' → yR D' 0 (sPass a) → P (sCt a) D') : zC miX6_passes [zr 124, zi 0] D P := by
  have n1 := hw.n1
  exact m_passes (Or.inl rfl) h.q hw hM fun D' f hq => hP D' f.n (yQ.r h (fun j p => f.2 j (by omega)) hq fun j p => sPass_n (by omega) n1.2 (by omega))
theorem m_minutes {n k : Int} {s : Mem} (hW : WS n s) (hn : n < 1000000) : mOK miX6_minutes [zr 124, zi k] s (r_minutes s k) := by
  intro D P hM hP
  have w := hW.1.1
  have h := hM.1
  have wm := sMinds_wa w
  have m3 := wm.n3
  unfold r_minutes at hP
  have loop : ∀ (m : Nat) (i : Nat) (D1 : Mem), (min k (9999 - sMinds (s 0) 3)).toNat - i = m → i ≤ (min k (9999 - sMinds (s 0) 3)).toNat → 1 ≤ k → k ≤ 60 → (∀ D', Fr 124 138 D D' → yS D' (sU s 0 (sPs (min k (9999 - sMinds (s 0) 3)).toNat (sMinds (s 0)))) → P (sCs (min k (9999 - sMinds (s 0) 3)).toNat (sMinds (s 0))) D') → yN D D1 → yR D1 0 (sPs i (sMinds (s 0))) → zW miX6_minutes P 27 [zr 124, zi k, zi (sCs i (sMinds (s 0))), zi i] D1 := by
    intro m
    induction m with
    | zero =>
      intro i D1 hm i1 k1 k2 hQ hf hR
      have e3 := hR.z (j := 3) (by omega) (by omega)
      rw [sPs_3] at e3
      have ei : i = (min k (9999 - sMinds (s 0) 3)).toNat := by omega
      subst ei
      have fin := hQ D1 hf.fr (hM.now hf hR)
      refine sX6_minutes_27 _ _ _ _ _ ?_
      simp only [tX6_minutes_27, w_ic, w_lc, w_lds, w_ild, w_lld, w_ald, w_ist, w_lst, w_ast, w_iinc, w_iadd, w_isub, w_imul, w_idiv, w_irem, w_iand, w_ior, w_ixor, w_ishl, w_ishr, w_iushr, w_ineg, w_ladd, w_lsub, w_lmul, w_ldiv, w_lrem, w_lcmp, w_i2l, w_l2i, w_dup, w_pop, w_dup2, w_ieq, w_zeq, w_ine, w_zne, w_ilt, w_zlt, w_ige, w_zge, w_igt, w_zgt, w_ile, w_zle, w_cut, w_tsw, zsw, w_iret, w_zret, w_lret, w_vret, w_nret, w_getI, w_getJ, w_getR, w_putI, w_putZ, w_putJ, w_iald, w_zald, w_iast, w_zast, w_alen, w_sI, w_sJ, w_sV, w_vI, w_vJ, w_vV, w_tI, w_mmax, w_mmin, w_mabs, w_lmax, w_acopy, gL, sL, kl_i, kl_l, kl_r, kl_s, kl_m, qI_i, qJ_l, qA_r, qA_s, pI_i, pJ_l, pA_r, pS_s, pM_m, pV_v, c1_i, c1_r, c1_s, c1_m, cS_0, cS_i, cS_l, cS_r, cS_s, cS_m, pN, z_rc_r, zE1, zE2, zE3, true_and, and_true, Nat.zero_add, Nat.reduceAdd, Nat.reduceLeDiff, true_or, or_true, Int.reduceLE, Int.reduceLT, zcmp_l, zcmp_g, zcmp_e, zcmp_le, mo, mf0, mz0, mf1, mz1, mf2, mz2, mf6, mz6, mf10, mz10, mf11, mz11, mf12, mz12, mf13, mz13, mf14, mz14, mf16, mz16, mf17, mz17, mf18, mz18, mf19, mz19, mi3, mi7, mi8, mi9, mi15, mi4, mi5, mi20, ma125, mn125, ma126, mn126, ma127, mn127, ma128, mn128, ma129, mn129, ma130, mn130, ma131, mn131, ma132, mn132, ma133, mn133, ma134, mn134, ma135, mn135, ma136, mn136, ma137, mn137]
      rw [e3]
      exact ⟨fun _ => fin, fun q => ⟨fun _ => fin, fun q2 => absurd q2 (by omega)⟩⟩
    | succ m ih =>
      intro i D1 hm i1 k1 k2 hQ hf hR
      have e3 := hR.z (j := 3) (by omega) (by omega)
      rw [sPs_3] at e3
      have wi : WA (9999 + (i : Nat)) (sPs i (sMinds (s 0))) := sPs_wa wm (by decide) i
      have cb := sCs_b wm i
      have cb2 := sCs_b wm (i + 1)
      refine sX6_minutes_27 _ _ _ _ _ ?_
      simp only [tX6_minutes_27, w_ic, w_lc, w_lds, w_ild, w_lld, w_ald, w_ist, w_lst, w_ast, w_iinc, w_iadd, w_isub, w_imul, w_idiv, w_irem, w_iand, w_ior, w_ixor, w_ishl, w_ishr, w_iushr, w_ineg, w_ladd, w_lsub, w_lmul, w_ldiv, w_lrem, w_lcmp, w_i2l, w_l2i, w_dup, w_pop, w_dup2, w_ieq, w_zeq, w_ine, w_zne, w_ilt, w_zlt, w_ige, w_zge, w_igt, w_zgt, w_ile, w_zle, w_cut, w_tsw, zsw, w_iret, w_zret, w_lret, w_vret, w_nret, w_getI, w_getJ, w_getR, w_putI, w_putZ, w_putJ, w_iald, w_zald, w_iast, w_zast, w_alen, w_sI, w_sJ, w_sV, w_vI, w_vJ, w_vV, w_tI, w_mmax, w_mmin, w_mabs, w_lmax, w_acopy, gL, sL, kl_i, kl_l, kl_r, kl_s, kl_m, qI_i, qJ_l, qA_r, qA_s, pI_i, pJ_l, pA_r, pS_s, pM_m, pV_v, c1_i, c1_r, c1_s, c1_m, cS_0, cS_i, cS_l, cS_r, cS_s, cS_m, pN, z_rc_r, zE1, zE2, zE3, true_and, and_true, Nat.zero_add, Nat.reduceAdd, Nat.reduceLeDiff, true_or, or_true, Int.reduceLE, Int.reduceLT, zcmp_l, zcmp_g, zcmp_e, zcmp_le, mo, mf0, mz0, mf1, mz1, mf2, mz2, mf6, mz6, mf10, mz10, mf11, mz11, mf12, mz12, mf13, mz13, mf14, mz14, mf16, mz16, mf17, mz17, mf18, mz18, mf19, mz19, mi3, mi7, mi8, mi9, mi15, mi4, mi5, mi20, ma125, mn125, ma126, mn126, ma127, mn127, ma128, mn128, ma129, mn129, ma130, mn130, ma131, mn131, ma132, mn132, ma133, mn133, ma134, mn134, ma135, mn135, ma136, mn136, ma137, mn137]
      rw [e3]
      refine ⟨fun w => absurd w (by omega), fun _ => ⟨fun w => absurd w (by omega), fun _ => ?_⟩⟩
      refine m_pass0 hR wi (by omega) fun D2 f2 hR2 => ?_
      have e : sCs (i + 1) (sMinds (s 0)) = sCs i (sMinds (s 0)) + sCt (sPs i (sMinds (s 0))) := rfl
      refine ⟨⟨by omega, by omega⟩, ⟨by omega, by omega⟩, ?_⟩
      exact ih (i + 1) D2 (by omega) (by omega) k1 k2 hQ (hf.trans f2) hR2
  refine e_X6_minutes ?_
  simp only [tX6_minutes_0, w_ic, w_lc, w_lds, w_ild, w_lld, w_ald, w_ist, w_lst, w_ast, w_iinc, w_iadd, w_isub, w_imul, w_idiv, w_irem, w_iand, w_ior, w_ixor, w_ishl, w_ishr, w_iushr, w_ineg, w_ladd, w_lsub, w_lmul, w_ldiv, w_lrem, w_lcmp, w_i2l, w_l2i, w_dup, w_pop, w_dup2, w_ieq, w_zeq, w_ine, w_zne, w_ilt, w_zlt, w_ige, w_zge, w_igt, w_zgt, w_ile, w_zle, w_cut, w_tsw, zsw, w_iret, w_zret, w_lret, w_vret, w_nret, w_getI, w_getJ, w_getR, w_putI, w_putZ, w_putJ, w_iald, w_zald, w_iast, w_zast, w_alen, w_sI, w_sJ, w_sV, w_vI, w_vJ, w_vV, w_tI, w_mmax, w_mmin, w_mabs, w_lmax, w_acopy, gL, sL, kl_i, kl_l, kl_r, kl_s, kl_m, qI_i, qJ_l, qA_r, qA_s, pI_i, pJ_l, pA_r, pS_s, pM_m, pV_v, c1_i, c1_r, c1_s, c1_m, cS_0, cS_i, cS_l, cS_r, cS_s, cS_m, pN, z_rc_r, zE1, zE2, zE3, true_and, and_true, Nat.zero_add, Nat.reduceAdd, Nat.reduceLeDiff, true_or, or_true, Int.reduceLE, Int.reduceLT, zcmp_l, zcmp_g, zcmp_e, zcmp_le, mo, mf0, mz0, mf1, mz1, mf2, mz2, mf6, mz6, mf10, mz10, mf11, mz11, mf12, mz12, mf13, mz13, mf14, mz14, mf16, mz16, mf17, mz17, mf18, mz18, mf19, mz19, mi3, mi7, mi8, mi9, mi15, mi4, mi5, mi20, ma125, mn125, ma126, mn126, ma127, mn127, ma128, mn128, ma129, mn129, ma130, mn130, ma131, mn131, ma132, mn132, ma133, mn133, ma134, mn134, ma135, mn135, ma136, mn136, ma137, mn137]
  refine m_in (fun q => ⟨fun _ => ?_, fun w => absurd (by decide) w⟩) (fun q => ⟨fun w => absurd rfl w, fun _ => ?_⟩)
  · rw [cIf_t q] at hP
    refine m_minds h w.n7 fun D' f hR => ?_
    exact loop _ 0 D' rfl (by omega) q.1 q.2 hP f.n hR
  · rw [cIf_f q] at hP
    exact m_bad hM hW hn hP
theorem m_turns {n i : Int} {s : Mem} (hW : WS n s) (hn : n < 1000000) : mOK miX6_turns [zr 124, zi i] s (r_turns s i) := by
  intro D P hM hP
  have w := hW.1.1
  have h := hM.1
  have wm := sMinds_wa w
  have n1 := w.n1
  unfold r_turns at hP
  refine e_X6_turns ?_
  simp only [tX6_turns_0, w_ic, w_lc, w_lds, w_ild, w_lld, w_ald, w_ist, w_lst, w_ast, w_iinc, w_iadd, w_isub, w_imul, w_idiv, w_irem, w_iand, w_ior, w_ixor, w_ishl, w_ishr, w_iushr, w_ineg, w_ladd, w_lsub, w_lmul, w_ldiv, w_lrem, w_lcmp, w_i2l, w_l2i, w_dup, w_pop, w_dup2, w_ieq, w_zeq, w_ine, w_zne, w_ilt, w_zlt, w_ige, w_zge, w_igt, w_zgt, w_ile, w_zle, w_cut, w_tsw, zsw, w_iret, w_zret, w_lret, w_vret, w_nret, w_getI, w_getJ, w_getR, w_putI, w_putZ, w_putJ, w_iald, w_zald, w_iast, w_zast, w_alen, w_sI, w_sJ, w_sV, w_vI, w_vJ, w_vV, w_tI, w_mmax, w_mmin, w_mabs, w_lmax, w_acopy, gL, sL, kl_i, kl_l, kl_r, kl_s, kl_m, qI_i, qJ_l, qA_r, qA_s, pI_i, pJ_l, pA_r, pS_s, pM_m, pV_v, c1_i, c1_r, c1_s, c1_m, cS_0, cS_i, cS_l, cS_r, cS_s, cS_m, pN, z_rc_r, zE1, zE2, zE3, true_and, and_true, Nat.zero_add, Nat.reduceAdd, Nat.reduceLeDiff, true_or, or_true, Int.reduceLE, Int.reduceLT, zcmp_l, zcmp_g, zcmp_e, zcmp_le, mo, mf0, mz0, mf1, mz1, mf2, mz2, mf6, mz6, mf10, mz10, mf11, mz11, mf12, mz12, mf13, mz13, mf14, mz14, mf16, mz16, mf17, mz17, mf18, mz18, mf19, mz19, mi3, mi7, mi8, mi9, mi15, mi4, mi5, mi20, ma125, mn125, ma126, mn126, ma127, mn127, ma128, mn128, ma129, mn129, ma130, mn130, ma131, mn131, ma132, mn132, ma133, mn133, ma134, mn134, ma135, mn135, ma136, mn136, ma137, mn137]
  refine m_isGoer h w.n1 (fun q => ⟨fun _ => ?_, fun w => absurd (by decide) w⟩) (fun q => ⟨fun w => absurd rfl w, fun _ => ?_⟩)
  · rw [cIf_t q] at hP
    refine m_minds h w.n7 fun D' f hR => ?_
    have e1 : sMinds (s 0) 1 = s 0 1 := sMinds_n w.n7.1 (by decide)
    have hb := (wm.2.2.1 i q.1 (by omega)).2.2.2.2
    rw [hR.z (by omega) (by omega), zU_s]
    have b : -1 ≤ sMinds (s 0) (40 + i) ∧ sMinds (s 0) (40 + i) ≤ 1 := by rcases hb with hb | hb <;> rw [hb] <;> decide
    repeat' (with_reducible apply And.intro)
    all_goals first | omega | exact ⟨by omega, by omega⟩ | skip
    have f2 := f.trans (yE.up (k := 40 + i) (x := 1 - sMinds (s 0) (40 + i)) (by omega) (by omega))
    exact hP _ f2.n.fr (hM.now f2.n (hR.up (by omega)))
  · rw [cIf_f q] at hP
    exact m_bad hM hW hn hP
theorem m_draws {n i : Int} {s : Mem} (hW : WS n s) (hn : n < 1000000) : mOK miX6_draws [zr 124, zi i] s (r_draws s i) := by
  intro D P hM hP
  have w := hW.1.1
  have h := hM.1
  have wm := sMinds_wa w
  have n1 := w.n0
  unfold r_draws at hP
  refine e_X6_draws ?_
  simp only [tX6_draws_0, w_ic, w_lc, w_lds, w_ild, w_lld, w_ald, w_ist, w_lst, w_ast, w_iinc, w_iadd, w_isub, w_imul, w_idiv, w_irem, w_iand, w_ior, w_ixor, w_ishl, w_ishr, w_iushr, w_ineg, w_ladd, w_lsub, w_lmul, w_ldiv, w_lrem, w_lcmp, w_i2l, w_l2i, w_dup, w_pop, w_dup2, w_ieq, w_zeq, w_ine, w_zne, w_ilt, w_zlt, w_ige, w_zge, w_igt, w_zgt, w_ile, w_zle, w_cut, w_tsw, zsw, w_iret, w_zret, w_lret, w_vret, w_nret, w_getI, w_getJ, w_getR, w_putI, w_putZ, w_putJ, w_iald, w_zald, w_iast, w_zast, w_alen, w_sI, w_sJ, w_sV, w_vI, w_vJ, w_vV, w_tI, w_mmax, w_mmin, w_mabs, w_lmax, w_acopy, gL, sL, kl_i, kl_l, kl_r, kl_s, kl_m, qI_i, qJ_l, qA_r, qA_s, pI_i, pJ_l, pA_r, pS_s, pM_m, pV_v, c1_i, c1_r, c1_s, c1_m, cS_0, cS_i, cS_l, cS_r, cS_s, cS_m, pN, z_rc_r, zE1, zE2, zE3, true_and, and_true, Nat.zero_add, Nat.reduceAdd, Nat.reduceLeDiff, true_or, or_true, Int.reduceLE, Int.reduceLT, zcmp_l, zcmp_g, zcmp_e, zcmp_le, mo, mf0, mz0, mf1, mz1, mf2, mz2, mf6, mz6, mf10, mz10, mf11, mz11, mf12, mz12, mf13, mz13, mf14, mz14, mf16, mz16, mf17, mz17, mf18, mz18, mf19, mz19, mi3, mi7, mi8, mi9, mi15, mi4, mi5, mi20, ma125, mn125, ma126, mn126, ma127, mn127, ma128, mn128, ma129, mn129, ma130, mn130, ma131, mn131, ma132, mn132, ma133, mn133, ma134, mn134, ma135, mn135, ma136, mn136, ma137, mn137]
  refine m_isLadder h w.n0 (fun q => ⟨fun _ => ?_, fun w => absurd (by decide) w⟩) (fun q => ⟨fun w => absurd rfl w, fun _ => ?_⟩)
  · rw [cIf_t q] at hP
    refine m_minds h w.n7 fun D' f hR => ?_
    have e1 : sMinds (s 0) 0 = s 0 0 := sMinds_n w.n7.1 (by decide)
    have hb := (wm.2.1 i q.1 (by omega)).2
    rw [hR.z (by omega) (by omega), zU_s]
    have b : -1 ≤ sMinds (s 0) (10 + i) ∧ sMinds (s 0) (10 + i) ≤ 1 := by rcases hb with hb | hb <;> rw [hb] <;> decide
    repeat' (with_reducible apply And.intro)
    all_goals first | omega | exact ⟨by omega, by omega⟩ | skip
    have f2 := f.trans (yE.up (k := 10 + i) (x := 1 - sMinds (s 0) (10 + i)) (by omega) (by omega))
    exact hP _ f2.n.fr (hM.now f2.n (hR.up (by omega)))
  · rw [cIf_f q] at hP
    exact m_bad hM hW hn hP
theorem m_undo {n : Int} {s : Mem} (hW : WS n s) (hn : n < 1000000) : mOK miX6_undo [zr 124] s (r_undo s) := by
  intro D P hM hP
  have w := hW.1.1
  have h := hM.1
  have n7 := w.n7
  unfold r_undo at hP
  have loop : ∀ (m : Nat) (k : Int) (D1 : Mem), (6 - k).toNat = m → 0 ≤ k → k ≤ 6 → 0 < s 0 120 → yE 0 D D1 → (∀ j, 0 ≤ j → j < 273 → D1 125 j = if j = 3 then s 0 (102 + 19 * s 0 120) else if 10 ≤ j ∧ j < 10 + k then s 0 (93 + 19 * s 0 120 + j) else if 34 ≤ j ∧ j < 34 + k then s 0 (75 + 19 * s 0 120 + j) else if 40 ≤ j ∧ j < 40 + k then s 0 (75 + 19 * s 0 120 + j) else if j = 120 then s 0 120 - 1 else s 0 j) → (∀ D', Fr 124 138 D D' → yS D' (sU s 0 (sUndo (s 0))) → P (sUndo (s 0) 3) D') → zW miX6_undo P 54 [zr 124, zi (102 + 19 * s 0 120), zi k] D1 := by
    intro m
    induction m with
    | zero =>
      intro k D1 hm k0 k1 hp hf hv hQ
      have hR : yR D1 0 (sUndo (s 0)) := by
        intro j p q
        rw [Int.zero_add, hv j p q, show k = 6 by omega]
        rfl
      refine sX6_undo_54 _ _ _ _ _ ?_
      simp only [tX6_undo_54, w_ic, w_lc, w_lds, w_ild, w_lld, w_ald, w_ist, w_lst, w_ast, w_iinc, w_iadd, w_isub, w_imul, w_idiv, w_irem, w_iand, w_ior, w_ixor, w_ishl, w_ishr, w_iushr, w_ineg, w_ladd, w_lsub, w_lmul, w_ldiv, w_lrem, w_lcmp, w_i2l, w_l2i, w_dup, w_pop, w_dup2, w_ieq, w_zeq, w_ine, w_zne, w_ilt, w_zlt, w_ige, w_zge, w_igt, w_zgt, w_ile, w_zle, w_cut, w_tsw, zsw, w_iret, w_zret, w_lret, w_vret, w_nret, w_getI, w_getJ, w_getR, w_putI, w_putZ, w_putJ, w_iald, w_zald, w_iast, w_zast, w_alen, w_sI, w_sJ, w_sV, w_vI, w_vJ, w_vV, w_tI, w_mmax, w_mmin, w_mabs, w_lmax, w_acopy, gL, sL, kl_i, kl_l, kl_r, kl_s, kl_m, qI_i, qJ_l, qA_r, qA_s, pI_i, pJ_l, pA_r, pS_s, pM_m, pV_v, c1_i, c1_r, c1_s, c1_m, cS_0, cS_i, cS_l, cS_r, cS_s, cS_m, pN, z_rc_r, zE1, zE2, zE3, true_and, and_true, Nat.zero_add, Nat.reduceAdd, Nat.reduceLeDiff, true_or, or_true, Int.reduceLE, Int.reduceLT, zcmp_l, zcmp_g, zcmp_e, zcmp_le, mo, mf0, mz0, mf1, mz1, mf2, mz2, mf6, mz6, mf10, mz10, mf11, mz11, mf12, mz12, mf13, mz13, mf14, mz14, mf16, mz16, mf17, mz17, mf18, mz18, mf19, mz19, mi3, mi7, mi8, mi9, mi15, mi4, mi5, mi20, ma125, mn125, ma126, mn126, ma127, mn127, ma128, mn128, ma129, mn129, ma130, mn130, ma131, mn131, ma132, mn132, ma133, mn133, ma134, mn134, ma135, mn135, ma136, mn136, ma137, mn137]
      rw [hR.z (by omega) (by omega)]
      exact ⟨fun _ => hQ D1 hf.n.fr (hM.now hf.n hR), fun w => absurd (by omega) w⟩
    | succ m ih =>
      intro k D1 hm k0 k1 hp hf hv hQ
      have r1 := hv (102 + 19 * s 0 120 + 1 + k) (by omega) (by omega)
      have r2 := hv (102 + 19 * s 0 120 + 7 + k) (by omega) (by omega)
      have r3 := hv (102 + 19 * s 0 120 + 13 + k) (by omega) (by omega)
      rw [if_neg (by omega), if_neg (by omega), if_neg (by omega), if_neg (by omega), if_neg (by omega)] at r1 r2 r3
      refine sX6_undo_54 _ _ _ _ _ ?_
      simp only [tX6_undo_54, w_ic, w_lc, w_lds, w_ild, w_lld, w_ald, w_ist, w_lst, w_ast, w_iinc, w_iadd, w_isub, w_imul, w_idiv, w_irem, w_iand, w_ior, w_ixor, w_ishl, w_ishr, w_iushr, w_ineg, w_ladd, w_lsub, w_lmul, w_ldiv, w_lrem, w_lcmp, w_i2l, w_l2i, w_dup, w_pop, w_dup2, w_ieq, w_zeq, w_ine, w_zne, w_ilt, w_zlt, w_ige, w_zge, w_igt, w_zgt, w_ile, w_zle, w_cut, w_tsw, zsw, w_iret, w_zret, w_lret, w_vret, w_nret, w_getI, w_getJ, w_getR, w_putI, w_putZ, w_putJ, w_iald, w_zald, w_iast, w_zast, w_alen, w_sI, w_sJ, w_sV, w_vI, w_vJ, w_vV, w_tI, w_mmax, w_mmin, w_mabs, w_lmax, w_acopy, gL, sL, kl_i, kl_l, kl_r, kl_s, kl_m, qI_i, qJ_l, qA_r, qA_s, pI_i, pJ_l, pA_r, pS_s, pM_m, pV_v, c1_i, c1_r, c1_s, c1_m, cS_0, cS_i, cS_l, cS_r, cS_s, cS_m, pN, z_rc_r, zE1, zE2, zE3, true_and, and_true, Nat.zero_add, Nat.reduceAdd, Nat.reduceLeDiff, true_or, or_true, Int.reduceLE, Int.reduceLT, zcmp_l, zcmp_g, zcmp_e, zcmp_le, mo, mf0, mz0, mf1, mz1, mf2, mz2, mf6, mz6, mf10, mz10, mf11, mz11, mf12, mz12, mf13, mz13, mf14, mz14, mf16, mz16, mf17, mz17, mf18, mz18, mf19, mz19, mi3, mi7, mi8, mi9, mi15, mi4, mi5, mi20, ma125, mn125, ma126, mn126, ma127, mn127, ma128, mn128, ma129, mn129, ma130, mn130, ma131, mn131, ma132, mn132, ma133, mn133, ma134, mn134, ma135, mn135, ma136, mn136, ma137, mn137]
      rw [r1, zU_k (D := D1) (k' := 102 + 19 * s 0 120 + 7 + k) (by omega), r2, zU_k (k' := 102 + 19 * s 0 120 + 13 + k) (by omega), zU_k (k' := 102 + 19 * s 0 120 + 13 + k) (by omega), r3]
      refine ⟨fun w => absurd w (by omega), fun _ => ?_⟩
      repeat' (with_reducible apply And.intro)
      all_goals first | omega | exact ⟨by omega, by omega⟩ | skip
      refine ih (k + 1) _ (by omega) (by omega) (by omega) hp (hf.trans ((yE.up (by omega) (by omega)).trans ((yE.up (by omega) (by omega)).trans (yE.up (by omega) (by omega))))) (fun j p q => ?_) hQ
      by_cases g1 : j = 10 + k
      · rw [zU_k (by omega), zU_k (by omega), g1, zU_s, if_neg (by omega), if_pos (by omega)]
        congr 1; omega
      · by_cases g2 : j = 34 + k
        · rw [zU_k (by omega), g2, zU_s, if_neg (by omega), if_neg (by omega), if_pos (by omega)]
          congr 1; omega
        · by_cases g3 : j = 40 + k
          · rw [g3, zU_s, if_neg (by omega), if_neg (by omega), if_neg (by omega), if_pos (by omega)]
            congr 1; omega
          · rw [zU_k (by omega), zU_k (by omega), zU_k (by omega), hv j p q]
            repeat' split
            all_goals first | rfl | (exfalso; omega)
  refine e_X6_undo ?_
  simp only [tX6_undo_0, w_ic, w_lc, w_lds, w_ild, w_lld, w_ald, w_ist, w_lst, w_ast, w_iinc, w_iadd, w_isub, w_imul, w_idiv, w_irem, w_iand, w_ior, w_ixor, w_ishl, w_ishr, w_iushr, w_ineg, w_ladd, w_lsub, w_lmul, w_ldiv, w_lrem, w_lcmp, w_i2l, w_l2i, w_dup, w_pop, w_dup2, w_ieq, w_zeq, w_ine, w_zne, w_ilt, w_zlt, w_ige, w_zge, w_igt, w_zgt, w_ile, w_zle, w_cut, w_tsw, zsw, w_iret, w_zret, w_lret, w_vret, w_nret, w_getI, w_getJ, w_getR, w_putI, w_putZ, w_putJ, w_iald, w_zald, w_iast, w_zast, w_alen, w_sI, w_sJ, w_sV, w_vI, w_vJ, w_vV, w_tI, w_mmax, w_mmin, w_mabs, w_lmax, w_acopy, gL, sL, kl_i, kl_l, kl_r, kl_s, kl_m, qI_i, qJ_l, qA_r, qA_s, pI_i, pJ_l, pA_r, pS_s, pM_m, pV_v, c1_i, c1_r, c1_s, c1_m, cS_0, cS_i, cS_l, cS_r, cS_s, cS_m, pN, z_rc_r, zE1, zE2, zE3, true_and, and_true, Nat.zero_add, Nat.reduceAdd, Nat.reduceLeDiff, true_or, or_true, Int.reduceLE, Int.reduceLT, zcmp_l, zcmp_g, zcmp_e, zcmp_le, mo, mf0, mz0, mf1, mz1, mf2, mz2, mf6, mz6, mf10, mz10, mf11, mz11, mf12, mz12, mf13, mz13, mf14, mz14, mf16, mz16, mf17, mz17, mf18, mz18, mf19, mz19, mi3, mi7, mi8, mi9, mi15, mi4, mi5, mi20, ma125, mn125, ma126, mn126, ma127, mn127, ma128, mn128, ma129, mn129, ma130, mn130, ma131, mn131, ma132, mn132, ma133, mn133, ma134, mn134, ma135, mn135, ma136, mn136, ma137, mn137]
  rw [h.z (by omega) (by omega)]
  refine ⟨fun q => ?_, fun q => ?_⟩
  · rw [cIf_f q] at hP
    rw [zU_s]
    have e : 121 + 19 * (s 0 120 - 1) = 102 + 19 * s 0 120 := by omega
    rw [e]
    rw [zU_k (by omega), h.z (by omega) (by omega)]
    repeat' (with_reducible apply And.intro)
    all_goals first | omega | exact ⟨by omega, by omega⟩ | skip
    refine loop 6 0 _ rfl (by omega) (by omega) (by omega) ((yE.up (by omega) (by omega)).trans (yE.up (by omega) (by omega))) (fun j p q => ?_) hP
    by_cases g : j = 3
    · rw [g, zU_s, if_pos rfl]
    · rw [zU_k g, if_neg g, if_neg (by omega), if_neg (by omega), if_neg (by omega)]
      by_cases g2 : j = 120
      · rw [g2, zU_s, if_pos rfl]
      · rw [zU_k g2, if_neg g2, h.z p q]
  · rw [cIf_t (Decidable.not_not.mp q)] at hP
    exact m_no hM hW hn hP
