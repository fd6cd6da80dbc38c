/-! ===== 28: calls on goers, windows, text, minutes ===== -/
theorem CS.wf {n : Int} {D s : Mem} (_h : CS D s) (hW : WS n s) : WA 9999 (s 0) := hW.1.1
noncomputable def r_goer (s : Mem) (k h g : Int) : Int × Mem := cIf ((0 ≤ k ∧ k ≤ 5) ∧ inC h ∧ inC g) (cIf (s 0 1 = 6) (-4, sRf s 5) (s 0 1, sU s 0 (sAddG (zA (s 0) 120 0) k h g))) (-2, sRf s 3)
theorem v_goer {n k hm g : Int} {s : Mem} (hW : WS n s) (hn : n < 1000000) : cOK miX5_goer [zr 0, zi k, zi hm, zi g] s (r_goer s k hm g) := by
  intro D P hC hP
  have h := hC.1.1
  have n0 := h.2.2.1.n1
  have bad : ¬ ((0 ≤ k ∧ k ≤ 5) ∧ inC hm ∧ inC g) → zC miX5_bad [zr 0] D P := by
    intro q
    unfold r_goer at hP
    rw [cIf_f q] at hP
    exact c_bad hC hW hn hP
  refine e_X5_goer ?_
  simp only [tX5_goer_0, w_ic, w_lc, w_lds, w_ild, w_lld, w_ald, w_ist, w_lst, w_ast, w_iinc, w_iadd, w_isub, w_imul, w_idiv, w_irem, w_iand, w_ior, w_ixor, w_ishl, w_ishr, w_iushr, w_ineg, w_ladd, w_lsub, w_lmul, w_ldiv, w_lrem, w_lcmp, w_i2l, w_l2i, w_dup, w_pop, w_dup2, w_ieq, w_zeq, w_ine, w_zne, w_ilt, w_zlt, w_ige, w_zge, w_igt, w_zgt, w_ile, w_zle, w_cut, w_tsw, zsw, w_iret, w_zret, w_lret, w_vret, w_nret, w_getI, w_getJ, w_getR, w_putI, w_putZ, w_putJ, w_iald, w_zald, w_iast, w_zast, w_alen, w_sI, w_sJ, w_sV, w_vI, w_vJ, w_vV, w_tI, w_mmax, w_mmin, w_mabs, w_lmax, w_acopy, gL, sL, kl_i, kl_l, kl_r, kl_s, kl_m, qI_i, qJ_l, qA_r, qA_s, pI_i, pJ_l, pA_r, pS_s, pM_m, pV_v, c1_i, c1_r, c1_s, c1_m, cS_0, cS_i, cS_l, cS_r, cS_s, cS_m, pN, z_rc_r, zE1, zE2, zE3, true_and, and_true, Nat.zero_add, Nat.reduceAdd, Nat.reduceLeDiff, true_or, or_true, q0, qp4, qp5, qp8, qp9, qf0, qz0, qf1, qz1, qf2, qz2, qf3, qz3, qf6, qz6, qf7, qz7, qf10, qz10, qf11, qz11, qf12, qz12, qf13, qz13, qf14, qz14, k1o, k1m, k1f0, k1z0, k1f1, k1z1, k1f2, k1z2, k1f3, k1z3, k1f4, k1z4, k1f5, k1z5, k1f6, k1z6, k1f7, k1z7, k1r0, k1r1, k1r2, k1r3, k1r4, k1r5, k1r6, k1w, k109, k109a, k109b, k109c, k109d, k109e, k109f, k109g, kr110, kr112, kr114, kr116, kr118, kr120, kr122]
  refine c_within (fun c0 c1 => ⟨fun w => absurd w (by decide), fun _ => ?_⟩) (fun q => ⟨fun _ => bad fun w => q w.1, fun w => absurd rfl w⟩)
  refine c_isCell (fun c2 => ⟨fun w => absurd w (by decide), fun _ => ?_⟩) (fun q => ⟨fun _ => bad fun w => q w.2.1, fun w => absurd rfl w⟩)
  refine c_isCell (fun c3 => ⟨fun _ => ?_, fun w => absurd (by decide) w⟩) (fun q => ⟨fun w => absurd rfl w, fun _ => bad fun w => q w.2.2⟩)
  unfold r_goer at hP
  rw [cIf_t ⟨⟨c0, c1⟩, c2, c3⟩] at hP
  refine c_Rows_isFull bk1.r1 (fun q2 => ⟨fun w => absurd w (by decide), fun _ => ?_⟩) (fun q2 => ⟨fun _ => ?_, fun w => absurd rfl w⟩)
  · rw [h.1.2.1.1, h.2.1.1.2.1] at q2
    rw [cIf_t (show s 0 1 = 6 by omega)] at hP
    exact c_full hC hW hn hP
  · rw [h.1.2.1.1, h.2.1.1.2.1] at q2
    have hl : s 0 1 < 6 := by omega
    rw [cIf_f (by omega)] at hP
    refine c_noPast bk1 h fun D1 d1 d2 => ?_
    refine c_addGoer bk1 d2 (by rw [zA_n (by decide)]; exact hl) (by omega) c2 c3 zA_s fun D2 d3 d4 => ?_
    rw [zA_n (by decide)]
    exact hP D2 ((d1.trans d3).wide (by omega) (by omega)) (hC.now ((d1.trans d3).wide (by omega) (by omega)) d4)
noncomputable def r_window (s : Mem) (k c : Int) : Int × Mem := cIf ((0 ≤ k ∧ k ≤ 5) ∧ inC c) (cIf (s 0 2 = 4) (-4, sRf s 5) (s 0 2, sU s 0 (sAddW (zA (s 0) 120 0) k c))) (-2, sRf s 3)
theorem v_window {n k c : Int} {s : Mem} (hW : WS n s) (hn : n < 1000000) : cOK miX5_window [zr 0, zi k, zi c] s (r_window s k c) := by
  intro D P hC hP
  have h := hC.1.1
  have n0 := h.2.2.1.n2
  have bad : ¬ ((0 ≤ k ∧ k ≤ 5) ∧ inC c) → zC miX5_bad [zr 0] D P := by
    intro q
    unfold r_window at hP
    rw [cIf_f q] at hP
    exact c_bad hC hW hn hP
  refine e_X5_window ?_
  simp only [tX5_window_0, w_ic, w_lc, w_lds, w_ild, w_lld, w_ald, w_ist, w_lst, w_ast, w_iinc, w_iadd, w_isub, w_imul, w_idiv, w_irem, w_iand, w_ior, w_ixor, w_ishl, w_ishr, w_iushr, w_ineg, w_ladd, w_lsub, w_lmul, w_ldiv, w_lrem, w_lcmp, w_i2l, w_l2i, w_dup, w_pop, w_dup2, w_ieq, w_zeq, w_ine, w_zne, w_ilt, w_zlt, w_ige, w_zge, w_igt, w_zgt, w_ile, w_zle, w_cut, w_tsw, zsw, w_iret, w_zret, w_lret, w_vret, w_nret, w_getI, w_getJ, w_getR, w_putI, w_putZ, w_putJ, w_iald, w_zald, w_iast, w_zast, w_alen, w_sI, w_sJ, w_sV, w_vI, w_vJ, w_vV, w_tI, w_mmax, w_mmin, w_mabs, w_lmax, w_acopy, gL, sL, kl_i, kl_l, kl_r, kl_s, kl_m, qI_i, qJ_l, qA_r, qA_s, pI_i, pJ_l, pA_r, pS_s, pM_m, pV_v, c1_i, c1_r, c1_s, c1_m, cS_0, cS_i, cS_l, cS_r, cS_s, cS_m, pN, z_rc_r, zE1, zE2, zE3, true_and, and_true, Nat.zero_add, Nat.reduceAdd, Nat.reduceLeDiff, true_or, or_true, q0, qp4, qp5, qp8, qp9, qf0, qz0, qf1, qz1, qf2, qz2, qf3, qz3, qf6, qz6, qf7, qz7, qf10, qz10, qf11, qz11, qf12, qz12, qf13, qz13, qf14, qz14, k1o, k1m, k1f0, k1z0, k1f1, k1z1, k1f2, k1z2, k1f3, k1z3, k1f4, k1z4, k1f5, k1z5, k1f6, k1z6, k1f7, k1z7, k1r0, k1r1, k1r2, k1r3, k1r4, k1r5, k1r6, k1w, k109, k109a, k109b, k109c, k109d, k109e, k109f, k109g, kr110, kr112, kr114, kr116, kr118, kr120, kr122]
  refine c_within (fun c0 c1 => ⟨fun w => absurd w (by decide), fun _ => ?_⟩) (fun q => ⟨fun _ => bad fun w => q w.1, fun w => absurd rfl w⟩)
  refine c_isCell (fun c3 => ⟨fun _ => ?_, fun w => absurd (by decide) w⟩) (fun q => ⟨fun w => absurd rfl w, fun _ => bad fun w => q w.2⟩)
  unfold r_window at hP
  rw [cIf_t ⟨⟨c0, c1⟩, c3⟩] at hP
  refine c_Rows_isFull bk1.r2 (fun q2 => ⟨fun w => absurd w (by decide), fun _ => ?_⟩) (fun q2 => ⟨fun _ => ?_, fun w => absurd rfl w⟩)
  · rw [h.1.2.2.1.1, h.2.1.1.2.2.1] at q2
    rw [cIf_t (show s 0 2 = 4 by omega)] at hP
    exact c_full hC hW hn hP
  · rw [h.1.2.2.1.1, h.2.1.1.2.2.1] at q2
    have hl : s 0 2 < 4 := by omega
    rw [cIf_f (by omega)] at hP
    refine c_noPast bk1 h fun D1 d1 d2 => ?_
    refine c_addWindow bk1 d2 (by rw [zA_n (by decide)]; exact hl) (by omega) c3 zA_s fun D2 d3 d4 => ?_
    rw [zA_n (by decide)]
    exact hP D2 ((d1.trans d3).wide (by omega) (by omega)) (hC.now ((d1.trans d3).wide (by omega) (by omega)) d4)
theorem CS.rdr {D D' s : Mem} {t : Int → Int} {l : Int} (h : CS D s) (hf : ∀ o, o ≠ 109 → o ≠ 111 → D' o = D o) (h1 : D' 109 1 = l) (h2 : ∀ j, 0 ≤ j → j < l → D' 111 j = t j) : CS D' (sU (sU s 3 t) 4 (zA (s 4) 0 l)) := by
  obtain ⟨⟨g1, ⟨x, g2⟩, g3, g4⟩, ⟨g5, g6⟩, ⟨g7, g8⟩, ⟨g9, g10, g11⟩, g12, g13⟩ := h
  have n : ∀ j, j ≠ 0 → zA (s 4) 0 l j = s 4 j := fun j q => zA_n q
  refine ⟨⟨by rw [sU_n (by decide), sU_n (by decide)]; exact g1.out fun o _ _ => hf o (by omega) (by omega), ⟨x, g2.out fun o _ _ => hf o (by omega) (by omega)⟩, by rw [sU_n (by decide), sU_n (by decide)]; exact g3.out fun o _ _ => hf o (by omega) (by omega), by rw [sU_n (by decide), sU_n (by decide)]; exact g4.out fun o _ _ => hf o (by omega) (by omega)⟩, ?_⟩
  rw [sU_s, sU_n (by decide), sU_s, zA_s, n 1 (by decide), n 2 (by decide), n 3 (by decide), n 4 (by decide), n 5 (by decide), n 6 (by decide), n 7 (by decide), hf 0 (by omega) (by omega), hf 113 (by omega) (by omega)]
  exact ⟨⟨h1, h2⟩, ⟨g7, g8⟩, ⟨g9, g10, g11⟩, g12, g13⟩
noncomputable def r_type (s : Mem) (c : Int) : Int × Mem := cIf (0 ≤ c ∧ c ≤ 127) (cIf (s 4 0 = 150) (-4, sRf s 5) (s 4 0 + 1, sU (sU s 3 (zA (s 3) (s 4 0) c)) 4 (zA (s 4) 0 (s 4 0 + 1)))) (-2, sRf s 3)
theorem v_type {n c : Int} {s : Mem} (hW : WS n s) (hn : n < 1000000) : cOK miX5_type [zr 0, zi c] s (r_type s c) := by
  intro D P hC hP
  have hL := hC.2.1.1
  have hL2 := hW.2.1.1
  have i150 : ((150 : Nat) : Int) = 150 := rfl
  unfold r_type at hP
  refine e_X5_type ?_
  simp only [tX5_type_0, w_ic, w_lc, w_lds, w_ild, w_lld, w_ald, w_ist, w_lst, w_ast, w_iinc, w_iadd, w_isub, w_imul, w_idiv, w_irem, w_iand, w_ior, w_ixor, w_ishl, w_ishr, w_iushr, w_ineg, w_ladd, w_lsub, w_lmul, w_ldiv, w_lrem, w_lcmp, w_i2l, w_l2i, w_dup, w_pop, w_dup2, w_ieq, w_zeq, w_ine, w_zne, w_ilt, w_zlt, w_ige, w_zge, w_igt, w_zgt, w_ile, w_zle, w_cut, w_tsw, zsw, w_iret, w_zret, w_lret, w_vret, w_nret, w_getI, w_getJ, w_getR, w_putI, w_putZ, w_putJ, w_iald, w_zald, w_iast, w_zast, w_alen, w_sI, w_sJ, w_sV, w_vI, w_vJ, w_vV, w_tI, w_mmax, w_mmin, w_mabs, w_lmax, w_acopy, gL, sL, kl_i, kl_l, kl_r, kl_s, kl_m, qI_i, qJ_l, qA_r, qA_s, pI_i, pJ_l, pA_r, pS_s, pM_m, pV_v, c1_i, c1_r, c1_s, c1_m, cS_0, cS_i, cS_l, cS_r, cS_s, cS_m, pN, z_rc_r, zE1, zE2, zE3, true_and, and_true, Nat.zero_add, Nat.reduceAdd, Nat.reduceLeDiff, true_or, or_true, q0, qp4, qp5, qp8, qp9, qf0, qz0, qf1, qz1, qf2, qz2, qf3, qz3, qf6, qz6, qf7, qz7, qf10, qz10, qf11, qz11, qf12, qz12, qf13, qz13, qf14, qz14, k1o, k1m, k1f0, k1z0, k1f1, k1z1, k1f2, k1z2, k1f3, k1z3, k1f4, k1z4, k1f5, k1z5, k1f6, k1z6, k1f7, k1z7, k1r0, k1r1, k1r2, k1r3, k1r4, k1r5, k1r6, k1w, k109, k109a, k109b, k109c, k109d, k109e, k109f, k109g, kr110, kr112, kr114, kr116, kr118, kr120, kr122]
  refine c_within (fun c0 c1 => ⟨fun _ => ?_, fun w => absurd (by decide) w⟩) (fun q => ⟨fun w => absurd rfl w, fun _ => ?_⟩)
  · rw [cIf_t ⟨c0, c1⟩] at hP
    refine e_X1_isFull ?_
    simp only [tX1_isFull_0, w_ic, w_lc, w_lds, w_ild, w_lld, w_ald, w_ist, w_lst, w_ast, w_iinc, w_iadd, w_isub, w_imul, w_idiv, w_irem, w_iand, w_ior, w_ixor, w_ishl, w_ishr, w_iushr, w_ineg, w_ladd, w_lsub, w_lmul, w_ldiv, w_lrem, w_lcmp, w_i2l, w_l2i, w_dup, w_pop, w_dup2, w_ieq, w_zeq, w_ine, w_zne, w_ilt, w_zlt, w_ige, w_zge, w_igt, w_zgt, w_ile, w_zle, w_cut, w_tsw, zsw, w_iret, w_zret, w_lret, w_vret, w_nret, w_getI, w_getJ, w_getR, w_putI, w_putZ, w_putJ, w_iald, w_zald, w_iast, w_zast, w_alen, w_sI, w_sJ, w_sV, w_vI, w_vJ, w_vV, w_tI, w_mmax, w_mmin, w_mabs, w_lmax, w_acopy, gL, sL, kl_i, kl_l, kl_r, kl_s, kl_m, qI_i, qJ_l, qA_r, qA_s, pI_i, pJ_l, pA_r, pS_s, pM_m, pV_v, c1_i, c1_r, c1_s, c1_m, cS_0, cS_i, cS_l, cS_r, cS_s, cS_m, pN, z_rc_r, zE1, zE2, zE3, true_and, and_true, Nat.zero_add, Nat.reduceAdd, Nat.reduceLeDiff, true_or, or_true, q0, qp4, qp5, qp8, qp9, qf0, qz0, qf1, qz1, qf2, qz2, qf3, qz3, qf6, qz6, qf7, qz7, qf10, qz10, qf11, qz11, qf12, qz12, qf13, qz13, qf14, qz14, k1o, k1m, k1f0, k1z0, k1f1, k1z1, k1f2, k1z2, k1f3, k1z3, k1f4, k1z4, k1f5, k1z5, k1f6, k1z6, k1f7, k1z7, k1r0, k1r1, k1r2, k1r3, k1r4, k1r5, k1r6, k1w, k109, k109a, k109b, k109c, k109d, k109e, k109f, k109g, kr110, kr112, kr114, kr116, kr118, kr120, kr122]
    rw [hL]
    refine ⟨fun q2 => ⟨fun _ => ?_, fun w => absurd trivial w⟩, fun q2 => ⟨fun w => absurd w (by decide), fun _ => ?_⟩⟩
    · rw [cIf_f (by omega)] at hP
      refine e_X1_add ?_
      simp only [tX1_add_0, w_ic, w_lc, w_lds, w_ild, w_lld, w_ald, w_ist, w_lst, w_ast, w_iinc, w_iadd, w_isub, w_imul, w_idiv, w_irem, w_iand, w_ior, w_ixor, w_ishl, w_ishr, w_iushr, w_ineg, w_ladd, w_lsub, w_lmul, w_ldiv, w_lrem, w_lcmp, w_i2l, w_l2i, w_dup, w_pop, w_dup2, w_ieq, w_zeq, w_ine, w_zne, w_ilt, w_zlt, w_ige, w_zge, w_igt, w_zgt, w_ile, w_zle, w_cut, w_tsw, zsw, w_iret, w_zret, w_lret, w_vret, w_nret, w_getI, w_getJ, w_getR, w_putI, w_putZ, w_putJ, w_iald, w_zald, w_iast, w_zast, w_alen, w_sI, w_sJ, w_sV, w_vI, w_vJ, w_vV, w_tI, w_mmax, w_mmin, w_mabs, w_lmax, w_acopy, gL, sL, kl_i, kl_l, kl_r, kl_s, kl_m, qI_i, qJ_l, qA_r, qA_s, pI_i, pJ_l, pA_r, pS_s, pM_m, pV_v, c1_i, c1_r, c1_s, c1_m, cS_0, cS_i, cS_l, cS_r, cS_s, cS_m, pN, z_rc_r, zE1, zE2, zE3, true_and, and_true, Nat.zero_add, Nat.reduceAdd, Nat.reduceLeDiff, true_or, or_true, q0, qp4, qp5, qp8, qp9, qf0, qz0, qf1, qz1, qf2, qz2, qf3, qz3, qf6, qz6, qf7, qz7, qf10, qz10, qf11, qz11, qf12, qz12, qf13, qz13, qf14, qz14, k1o, k1m, k1f0, k1z0, k1f1, k1z1, k1f2, k1z2, k1f3, k1z3, k1f4, k1z4, k1f5, k1z5, k1f6, k1z6, k1f7, k1z7, k1r0, k1r1, k1r2, k1r3, k1r4, k1r5, k1r6, k1w, k109, k109a, k109b, k109c, k109d, k109e, k109f, k109g, kr110, kr112, kr114, kr116, kr118, kr120, kr122]
      rw [hL]
      refine c_Row_set p110 (by omega) (by omega) ?_
      rw [zU_o (by decide), hL]
      refine ⟨⟨by omega, by omega⟩, ?_⟩
      rw [zU_s]
      refine hP _ ((Fr.up (by omega) (by omega)).trans (Fr.up (by omega) (by omega))) (hC.rdr (fun o a1 a2 => by rw [zU_ne a1, zU_ne a2]) zU_s (fun j j0 j1 => ?_))
      rw [zU_o (by decide)]
      by_cases e : j = s 4 0
      · rw [e, zU_s, zA_s]
      · rw [zU_k e, zA_n e]
        exact hC.2.1.2 j j0 (by omega)
    · rw [cIf_t (by omega)] at hP
      exact c_full hC hW hn hP
  · rw [cIf_f (by omega)] at hP
    exact c_bad hC hW hn hP
noncomputable def r_clear (s : Mem) : Int × Mem := (s 4 0, sU s 4 (zA (s 4) 0 0))
theorem v_clear {s : Mem} : cOK miX5_clear [zr 0] s (r_clear s) := by
  intro D P hC hP
  refine e_X5_clear ?_
  simp only [tX5_clear_0, w_ic, w_lc, w_lds, w_ild, w_lld, w_ald, w_ist, w_lst, w_ast, w_iinc, w_iadd, w_isub, w_imul, w_idiv, w_irem, w_iand, w_ior, w_ixor, w_ishl, w_ishr, w_iushr, w_ineg, w_ladd, w_lsub, w_lmul, w_ldiv, w_lrem, w_lcmp, w_i2l, w_l2i, w_dup, w_pop, w_dup2, w_ieq, w_zeq, w_ine, w_zne, w_ilt, w_zlt, w_ige, w_zge, w_igt, w_zgt, w_ile, w_zle, w_cut, w_tsw, zsw, w_iret, w_zret, w_lret, w_vret, w_nret, w_getI, w_getJ, w_getR, w_putI, w_putZ, w_putJ, w_iald, w_zald, w_iast, w_zast, w_alen, w_sI, w_sJ, w_sV, w_vI, w_vJ, w_vV, w_tI, w_mmax, w_mmin, w_mabs, w_lmax, w_acopy, gL, sL, kl_i, kl_l, kl_r, kl_s, kl_m, qI_i, qJ_l, qA_r, qA_s, pI_i, pJ_l, pA_r, pS_s, pM_m, pV_v, c1_i, c1_r, c1_s, c1_m, cS_0, cS_i, cS_l, cS_r, cS_s, cS_m, pN, z_rc_r, zE1, zE2, zE3, true_and, and_true, Nat.zero_add, Nat.reduceAdd, Nat.reduceLeDiff, true_or, or_true, q0, qp4, qp5, qp8, qp9, qf0, qz0, qf1, qz1, qf2, qz2, qf3, qz3, qf6, qz6, qf7, qz7, qf10, qz10, qf11, qz11, qf12, qz12, qf13, qz13, qf14, qz14, k1o, k1m, k1f0, k1z0, k1f1, k1z1, k1f2, k1z2, k1f3, k1z3, k1f4, k1z4, k1f5, k1z5, k1f6, k1z6, k1f7, k1z7, k1r0, k1r1, k1r2, k1r3, k1r4, k1r5, k1r6, k1w, k109, k109a, k109b, k109c, k109d, k109e, k109f, k109g, kr110, kr112, kr114, kr116, kr118, kr120, kr122]
  refine e_X1_empty ?_
  simp only [tX1_empty_0, w_ic, w_lc, w_lds, w_ild, w_lld, w_ald, w_ist, w_lst, w_ast, w_iinc, w_iadd, w_isub, w_imul, w_idiv, w_irem, w_iand, w_ior, w_ixor, w_ishl, w_ishr, w_iushr, w_ineg, w_ladd, w_lsub, w_lmul, w_ldiv, w_lrem, w_lcmp, w_i2l, w_l2i, w_dup, w_pop, w_dup2, w_ieq, w_zeq, w_ine, w_zne, w_ilt, w_zlt, w_ige, w_zge, w_igt, w_zgt, w_ile, w_zle, w_cut, w_tsw, zsw, w_iret, w_zret, w_lret, w_vret, w_nret, w_getI, w_getJ, w_getR, w_putI, w_putZ, w_putJ, w_iald, w_zald, w_iast, w_zast, w_alen, w_sI, w_sJ, w_sV, w_vI, w_vJ, w_vV, w_tI, w_mmax, w_mmin, w_mabs, w_lmax, w_acopy, gL, sL, kl_i, kl_l, kl_r, kl_s, kl_m, qI_i, qJ_l, qA_r, qA_s, pI_i, pJ_l, pA_r, pS_s, pM_m, pV_v, c1_i, c1_r, c1_s, c1_m, cS_0, cS_i, cS_l, cS_r, cS_s, cS_m, pN, z_rc_r, zE1, zE2, zE3, true_and, and_true, Nat.zero_add, Nat.reduceAdd, Nat.reduceLeDiff, true_or, or_true, q0, qp4, qp5, qp8, qp9, qf0, qz0, qf1, qz1, qf2, qz2, qf3, qz3, qf6, qz6, qf7, qz7, qf10, qz10, qf11, qz11, qf12, qz12, qf13, qz13, qf14, qz14, k1o, k1m, k1f0, k1z0, k1f1, k1z1, k1f2, k1z2, k1f3, k1z3, k1f4, k1z4, k1f5, k1z5, k1f6, k1z6, k1f7, k1z7, k1r0, k1r1, k1r2, k1r3, k1r4, k1r5, k1r6, k1w, k109, k109a, k109b, k109c, k109d, k109e, k109f, k109g, kr110, kr112, kr114, kr116, kr118, kr120, kr122]
  rw [hC.2.1.1]
  have := hC.rdr (D' := zU D 109 1 0) (t := s 3) (l := 0) (fun o a1 _ => zU_ne a1) zU_s (fun j j0 j1 => by omega)
  rw [sU_i] at this
  exact hP _ (Fr.up (by omega) (by omega)) this
theorem sPs_wa {M : Int} {a : Int → Int} (h : WA M a) (hM : 0 ≤ M) : ∀ n : Nat, WA (M + n) (sPs n a)
  | 0 => by
    rw [show M + ((0 : Nat) : Int) = M by omega]
    exact h
  | n + 1 => by
    rw [show M + ((n + 1 : Nat) : Int) = M + n + 1 by omega]
    exact (sPs_wa h hM n).pass (by omega)
theorem sPs_wa' {M : Int} {a : Int → Int} {n : Nat} (h : WA M a) (hM : 0 ≤ M) (hn : a 3 + n ≤ M) : WA M (sPs n a) := by
  have w := sPs_wa h hM n
  have n1 := h.n1
  have n3 := h.n3
  have e : ∀ j, ¬ (34 ≤ j ∧ j < 40) → j ≠ 3 → sPs n a j = a j := fun j p q => sPs_n p n1.2 q n
  exact WA.mk' w.w0 w.w1 w.w2 (by rw [sPs_3]; omega) w.w4 w.w5 w.w6 (by rw [e 0 (by omega) (by omega), e 1 (by omega) (by omega)]; exact h.w7.of h.n0.2 h.n1.2 fun j hj => e j (by omega) (by omega))
noncomputable def r_minutes (s : Mem) (n : Int) : Int × Mem := cIf (1 ≤ n ∧ n ≤ 60) (sCs (min n (9999 - sMinds (s 0) 3)).toNat (sMinds (s 0)), sU s 0 (sPs (min n (9999 - sMinds (s 0) 3)).toNat (sMinds (s 0)))) (-2, sRf s 3)
theorem v_minutes {n k : Int} {s : Mem} (hW : WS n s) (hn : n < 1000000) : cOK miX5_minutes [zr 0, zi k] s (r_minutes s k) := by
  intro D P hC hP
  have h := hC.1.1
  unfold r_minutes at hP
  refine e_X5_minutes ?_
  simp only [tX5_minutes_0, w_ic, w_lc, w_lds, w_ild, w_lld, w_ald, w_ist, w_lst, w_ast, w_iinc, w_iadd, w_isub, w_imul, w_idiv, w_irem, w_iand, w_ior, w_ixor, w_ishl, w_ishr, w_iushr, w_ineg, w_ladd, w_lsub, w_lmul, w_ldiv, w_lrem, w_lcmp, w_i2l, w_l2i, w_dup, w_pop, w_dup2, w_ieq, w_zeq, w_ine, w_zne, w_ilt, w_zlt, w_ige, w_zge, w_igt, w_zgt, w_ile, w_zle, w_cut, w_tsw, zsw, w_iret, w_zret, w_lret, w_vret, w_nret, w_getI, w_getJ, w_getR, w_putI, w_putZ, w_putJ, w_iald, w_zald, w_iast, w_zast, w_alen, w_sI, w_sJ, w_sV, w_vI, w_vJ, w_vV, w_tI, w_mmax, w_mmin, w_mabs, w_lmax, w_acopy, gL, sL, kl_i, kl_l, kl_r, kl_s, kl_m, qI_i, qJ_l, qA_r, qA_s, pI_i, pJ_l, pA_r, pS_s, pM_m, pV_v, c1_i, c1_r, c1_s, c1_m, cS_0, cS_i, cS_l, cS_r, cS_s, cS_m, pN, z_rc_r, zE1, zE2, zE3, true_and, and_true, Nat.zero_add, Nat.reduceAdd, Nat.reduceLeDiff, true_or, or_true, q0, qp4, qp5, qp8, qp9, qf0, qz0, qf1, qz1, qf2, qz2, qf3, qz3, qf6, qz6, qf7, qz7, qf10, qz10, qf11, qz11, qf12, qz12, qf13, qz13, qf14, qz14, k1o, k1m, k1f0, k1z0, k1f1, k1z1, k1f2, k1z2, k1f3, k1z3, k1f4, k1z4, k1f5, k1z5, k1f6, k1z6, k1f7, k1z7, k1r0, k1r1, k1r2, k1r3, k1r4, k1r5, k1r6, k1w, k109, k109a, k109b, k109c, k109d, k109e, k109f, k109g, kr110, kr112, kr114, kr116, kr118, kr120, kr122]
  refine c_within (fun c0 c1 => ⟨fun _ => ?_, fun w => absurd (by decide) w⟩) (fun q => ⟨fun w => absurd rfl w, fun _ => ?_⟩)
  · rw [cIf_t ⟨c0, c1⟩] at hP
    refine c_remember bk1 h fun D1 d1 d2 => ?_
    have n3 := d2.2.2.1.n3
    rw [d2.2.1.m]
    refine ⟨⟨by omega, by omega⟩, ?_⟩
    refine c_pass bk1 d2 (by decide) (by decide) (by omega) fun D2 d3 d4 => ?_
    exact hP D2 ((d1.wide (by omega) (by omega)).trans (d3.wide (by omega) (by omega))) (hC.now ((d1.wide (by omega) (by omega)).trans (d3.wide (by omega) (by omega))) (d4.mono (sPs_wa' d2.2.2.1 (by decide) (by omega))))
  · rw [cIf_f (by omega)] at hP
    exact c_bad hC hW hn hP
noncomputable def r_turns (s : Mem) (i : Int) : Int × Mem := cIf (0 ≤ i ∧ i < s 0 1) (1 - sMinds (s 0) (40 + i), sU s 0 (zA (sMinds (s 0)) (40 + i) (1 - sMinds (s 0) (40 + i)))) (-2, sRf s 3)
theorem sMinds_n {a : Int → Int} {j : Int} (h0 : 0 ≤ a 120) (hj : j < 120) : sMinds a j = a j := by
  unfold sMinds
  split
  · rw [sMind_n (by rw [sShift_c]; omega) (by omega) (by rw [sShift_c]; omega), sShift_n (by omega)]
  · rw [sMind_n h0 (by omega) (by omega)]
theorem v_turns {n i : Int} {s : Mem} (hW : WS n s) (hn : n < 1000000) : cOK miX5_turns [zr 0, zi i] s (r_turns s i) := by
  intro D P hC hP
  have h := hC.1.1
  have n7 := h.2.2.1.n7
  unfold r_turns at hP
  refine e_X5_turns ?_
  simp only [tX5_turns_0, w_ic, w_lc, w_lds, w_ild, w_lld, w_ald, w_ist, w_lst, w_ast, w_iinc, w_iadd, w_isub, w_imul, w_idiv, w_irem, w_iand, w_ior, w_ixor, w_ishl, w_ishr, w_iushr, w_ineg, w_ladd, w_lsub, w_lmul, w_ldiv, w_lrem, w_lcmp, w_i2l, w_l2i, w_dup, w_pop, w_dup2, w_ieq, w_zeq, w_ine, w_zne, w_ilt, w_zlt, w_ige, w_zge, w_igt, w_zgt, w_ile, w_zle, w_cut, w_tsw, zsw, w_iret, w_zret, w_lret, w_vret, w_nret, w_getI, w_getJ, w_getR, w_putI, w_putZ, w_putJ, w_iald, w_zald, w_iast, w_zast, w_alen, w_sI, w_sJ, w_sV, w_vI, w_vJ, w_vV, w_tI, w_mmax, w_mmin, w_mabs, w_lmax, w_acopy, gL, sL, kl_i, kl_l, kl_r, kl_s, kl_m, qI_i, qJ_l, qA_r, qA_s, pI_i, pJ_l, pA_r, pS_s, pM_m, pV_v, c1_i, c1_r, c1_s, c1_m, cS_0, cS_i, cS_l, cS_r, cS_s, cS_m, pN, z_rc_r, zE1, zE2, zE3, true_and, and_true, Nat.zero_add, Nat.reduceAdd, Nat.reduceLeDiff, true_or, or_true, q0, qp4, qp5, qp8, qp9, qf0, qz0, qf1, qz1, qf2, qz2, qf3, qz3, qf6, qz6, qf7, qz7, qf10, qz10, qf11, qz11, qf12, qz12, qf13, qz13, qf14, qz14, k1o, k1m, k1f0, k1z0, k1f1, k1z1, k1f2, k1z2, k1f3, k1z3, k1f4, k1z4, k1f5, k1z5, k1f6, k1z6, k1f7, k1z7, k1r0, k1r1, k1r2, k1r3, k1r4, k1r5, k1r6, k1w, k109, k109a, k109b, k109c, k109d, k109e, k109f, k109g, kr110, kr112, kr114, kr116, kr118, kr120, kr122]
  refine c_Rows_has bk1.r1 (fun c0 c1 => ⟨fun _ => ?_, fun w => absurd (by decide) w⟩) (fun q => ⟨fun w => absurd rfl w, fun _ => ?_⟩)
  · rw [h.2.1.1.2.1] at c1
    rw [cIf_t ⟨c0, c1⟩] at hP
    refine c_remember bk1 h fun D1 d1 d2 => ?_
    refine c_turnGoer bk1 d2 c0 (by rw [sMinds_n n7.1 (by omega)]; exact c1) fun D2 d3 d4 => ?_
    exact hP D2 ((d1.trans d3).wide (by omega) (by omega)) (hC.now ((d1.trans d3).wide (by omega) (by omega)) d4)
  · rw [h.2.1.1.2.1] at q
    rw [cIf_f q] at hP
    exact c_bad hC hW hn hP
noncomputable def r_draws (s : Mem) (i : Int) : Int × Mem := cIf (0 ≤ i ∧ i < s 0 0) (1 - sMinds (s 0) (10 + i), sU s 0 (zA (sMinds (s 0)) (10 + i) (1 - sMinds (s 0) (10 + i)))) (-2, sRf s 3)
theorem v_draws {n i : Int} {s : Mem} (hW : WS n s) (hn : n < 1000000) : cOK miX5_draws [zr 0, zi i] s (r_draws s i) := by
  intro D P hC hP
  have h := hC.1.1
  have n7 := h.2.2.1.n7
  unfold r_draws at hP
  refine e_X5_draws ?_
  simp only [tX5_draws_0, w_ic, w_lc, w_lds, w_ild, w_lld, w_ald, w_ist, w_lst, w_ast, w_iinc, w_iadd, w_isub, w_imul, w_idiv, w_irem, w_iand, w_ior, w_ixor, w_ishl, w_ishr, w_iushr, w_ineg, w_ladd, w_lsub, w_lmul, w_ldiv, w_lrem, w_lcmp, w_i2l, w_l2i, w_dup, w_pop, w_dup2, w_ieq, w_zeq, w_ine, w_zne, w_ilt, w_zlt, w_ige, w_zge, w_igt, w_zgt, w_ile, w_zle, w_cut, w_tsw, zsw, w_iret, w_zret, w_lret, w_vret, w_nret, w_getI, w_getJ, w_getR, w_putI, w_putZ, w_putJ, w_iald, w_zald, w_iast, w_zast, w_alen, w_sI, w_sJ, w_sV, w_vI, w_vJ, w_vV, w_tI, w_mmax, w_mmin, w_mabs, w_lmax, w_acopy, gL, sL, kl_i, kl_l, kl_r, kl_s, kl_m, qI_i, qJ_l, qA_r, qA_s, pI_i, pJ_l, pA_r, pS_s, pM_m, pV_v, c1_i, c1_r, c1_s, c1_m, cS_0, cS_i, cS_l, cS_r, cS_s, cS_m, pN, z_rc_r, zE1, zE2, zE3, true_and, and_true, Nat.zero_add, Nat.reduceAdd, Nat.reduceLeDiff, true_or, or_true, q0, qp4, qp5, qp8, qp9, qf0, qz0, qf1, qz1, qf2, qz2, qf3, qz3, qf6, qz6, qf7, qz7, qf10, qz10, qf11, qz11, qf12, qz12, qf13, qz13, qf14, qz14, k1o, k1m, k1f0, k1z0, k1f1, k1z1, k1f2, k1z2, k1f3, k1z3, k1f4, k1z4, k1f5, k1z5, k1f6, k1z6, k1f7, k1z7, k1r0, k1r1, k1r2, k1r3, k1r4, k1r5, k1r6, k1w, k109, k109a, k109b, k109c, k109d, k109e, k109f, k109g, kr110, kr112, kr114, kr116, kr118, kr120, kr122]
  refine c_Rows_has bk1.r0 (fun c0 c1 => ⟨fun _ => ?_, fun w => absurd (by decide) w⟩) (fun q => ⟨fun w => absurd rfl w, fun _ => ?_⟩)
  · rw [h.2.1.1.1] at c1
    rw [cIf_t ⟨c0, c1⟩] at hP
    refine c_remember bk1 h fun D1 d1 d2 => ?_
    refine c_drawLadder bk1 d2 c0 (by rw [sMinds_n n7.1 (by omega)]; exact c1) fun D2 d3 d4 => ?_
    exact hP D2 ((d1.trans d3).wide (by omega) (by omega)) (hC.now ((d1.trans d3).wide (by omega) (by omega)) d4)
  · rw [h.2.1.1.1] at q
    rw [cIf_f q] at hP
    exact c_bad hC hW hn hP
noncomputable def r_undo (s : Mem) : Int × Mem := cIf (s 0 120 = 0) (-3, sRf s 4) (sUndo (s 0) 3, sU s 0 (sUndo (s 0)))
theorem v_undo {n : Int} {s : Mem} (hW : WS n s) (hn : n < 1000000) : cOK miX5_undo [zr 0] s (r_undo s) := by
  intro D P hC hP
  have h := hC.1.1
  have n7 := h.2.2.1.n7
  unfold r_undo at hP
  refine e_X5_undo ?_
  simp only [tX5_undo_0, w_ic, w_lc, w_lds, w_ild, w_lld, w_ald, w_ist, w_lst, w_ast, w_iinc, w_iadd, w_isub, w_imul, w_idiv, w_irem, w_iand, w_ior, w_ixor, w_ishl, w_ishr, w_iushr, w_ineg, w_ladd, w_lsub, w_lmul, w_ldiv, w_lrem, w_lcmp, w_i2l, w_l2i, w_dup, w_pop, w_dup2, w_ieq, w_zeq, w_ine, w_zne, w_ilt, w_zlt, w_ige, w_zge, w_igt, w_zgt, w_ile, w_zle, w_cut, w_tsw, zsw, w_iret, w_zret, w_lret, w_vret, w_nret, w_getI, w_getJ, w_getR, w_putI, w_putZ, w_putJ, w_iald, w_zald, w_iast, w_zast, w_alen, w_sI, w_sJ, w_sV, w_vI, w_vJ, w_vV, w_tI, w_mmax, w_mmin, w_mabs, w_lmax, w_acopy, gL, sL, kl_i, kl_l, kl_r, kl_s, kl_m, qI_i, qJ_l, qA_r, qA_s, pI_i, pJ_l, pA_r, pS_s, pM_m, pV_v, c1_i, c1_r, c1_s, c1_m, cS_0, cS_i, cS_l, cS_r, cS_s, cS_m, pN, z_rc_r, zE1, zE2, zE3, true_and, and_true, Nat.zero_add, Nat.reduceAdd, Nat.reduceLeDiff, true_or, or_true, q0, qp4, qp5, qp8, qp9, qf0, qz0, qf1, qz1, qf2, qz2, qf3, qz3, qf6, qz6, qf7, qz7, qf10, qz10, qf11, qz11, qf12, qz12, qf13, qz13, qf14, qz14, k1o, k1m, k1f0, k1z0, k1f1, k1z1, k1f2, k1z2, k1f3, k1z3, k1f4, k1z4, k1f5, k1z5, k1f6, k1z6, k1f7, k1z7, k1r0, k1r1, k1r2, k1r3, k1r4, k1r5, k1r6, k1w, k109, k109a, k109b, k109c, k109d, k109e, k109f, k109g, kr110, kr112, kr114, kr116, kr118, kr120, kr122]
  refine c_Rows_size bk1.r6 ?_
  rw [h.2.1.p.1]
  refine ⟨fun q => ?_, fun q => ?_⟩
  · rw [cIf_f q] at hP
    refine c_recall bk1 h (by omega) fun D1 d1 d2 => ?_
    rw [d2.2.1.m]
    exact hP D1 (d1.wide (by omega) (by omega)) (hC.now (d1.wide (by omega) (by omega)) d2)
  · rw [cIf_t (by omega)] at hP
    exact c_no hC hW hn hP
noncomputable def r_of (s : Mem) (i w : Int) : Int × Mem := cIf ((0 ≤ i ∧ i < s 0 1) ∧ 0 ≤ w ∧ w ≤ 6) (cIf (w = 5) (sNa (s 0) i, s) (cIf (w = 6) (sLd (s 0) i, s) (s 0 (16 + 6 * w + i), s))) (-2, sRf s 3)
theorem v_of {n i w : Int} {s : Mem} (hW : WS n s) (hn : n < 1000000) : cOK miX5_of [zr 0, zi i, zi w] s (r_of s i w) := by
  intro D P hC hP
  have h := hC.1.1
  unfold r_of at hP
  refine e_X5_of ?_
  simp only [tX5_of_0, w_ic, w_lc, w_lds, w_ild, w_lld, w_ald, w_ist, w_lst, w_ast, w_iinc, w_iadd, w_isub, w_imul, w_idiv, w_irem, w_iand, w_ior, w_ixor, w_ishl, w_ishr, w_iushr, w_ineg, w_ladd, w_lsub, w_lmul, w_ldiv, w_lrem, w_lcmp, w_i2l, w_l2i, w_dup, w_pop, w_dup2, w_ieq, w_zeq, w_ine, w_zne, w_ilt, w_zlt, w_ige, w_zge, w_igt, w_zgt, w_ile, w_zle, w_cut, w_tsw, zsw, w_iret, w_zret, w_lret, w_vret, w_nret, w_getI, w_getJ, w_getR, w_putI, w_putZ, w_putJ, w_iald, w_zald, w_iast, w_zast, w_alen, w_sI, w_sJ, w_sV, w_vI, w_vJ, w_vV, w_tI, w_mmax, w_mmin, w_mabs, w_lmax, w_acopy, gL, sL, kl_i, kl_l, kl_r, kl_s, kl_m, qI_i, qJ_l, qA_r, qA_s, pI_i, pJ_l, pA_r, pS_s, pM_m, pV_v, c1_i, c1_r, c1_s, c1_m, cS_0, cS_i, cS_l, cS_r, cS_s, cS_m, pN, z_rc_r, zE1, zE2, zE3, true_and, and_true, Nat.zero_add, Nat.reduceAdd, Nat.reduceLeDiff, true_or, or_true, q0, qp4, qp5, qp8, qp9, qf0, qz0, qf1, qz1, qf2, qz2, qf3, qz3, qf6, qz6, qf7, qz7, qf10, qz10, qf11, qz11, qf12, qz12, qf13, qz13, qf14, qz14, k1o, k1m, k1f0, k1z0, k1f1, k1z1, k1f2, k1z2, k1f3, k1z3, k1f4, k1z4, k1f5, k1z5, k1f6, k1z6, k1f7, k1z7, k1r0, k1r1, k1r2, k1r3, k1r4, k1r5, k1r6, k1w, k109, k109a, k109b, k109c, k109d, k109e, k109f, k109g, kr110, kr112, kr114, kr116, kr118, kr120, kr122]
  refine c_Rows_has bk1.r1 (fun c0 c1 => ⟨fun w => absurd w (by decide), fun _ => ?_⟩) (fun q => ⟨fun _ => ?_, fun w => absurd rfl w⟩)
  · rw [h.2.1.1.2.1] at c1
    refine c_within (fun c2 c3 => ⟨fun _ => ?_, fun w => absurd (by decide) w⟩) (fun q => ⟨fun w => absurd rfl w, fun _ => ?_⟩)
    · rw [cIf_t ⟨⟨c0, c1⟩, c2, c3⟩] at hP
      refine ⟨fun q1 => ⟨fun q2 => ?_, fun q2 => ?_⟩, fun q1 => ?_⟩
      · rw [cIf_f q1, cIf_f q2] at hP
        exact c_gget bk1 h c0 c1 (by omega) (by omega) (hP D Fr.rfl hC)
      · rw [cIf_f q1, cIf_t (by omega)] at hP
        exact c_loudOf bk1 h c0 c1 fun D1 d1 d2 => hP D1 (d1.wide (by omega) (by omega)) (hC.same (d1.wide (by omega) (by omega)) d2)
      · rw [cIf_t (by omega)] at hP
        exact c_nextOf bk1 h c0 c1 fun D1 d1 d2 => hP D1 (d1.wide (by omega) (by omega)) (hC.same (d1.wide (by omega) (by omega)) d2)
    · rw [cIf_f (fun w => q w.2)] at hP
      exact c_bad hC hW hn hP
  · rw [h.2.1.1.2.1] at q
    rw [cIf_f (fun w => q w.1)] at hP
    exact c_bad hC hW hn hP
noncomputable def r_about (s : Mem) (i w : Int) : Int × Mem := cIf ((0 ≤ i ∧ i < s 0 2) ∧ 0 ≤ w ∧ w ≤ 2) (cIf (w = 2) (zbits (s 0 1).toNat (sHr (s 0) i), s) (s 0 (46 + 4 * w + i), s)) (-2, sRf s 3)
theorem v_about {n i w : Int} {s : Mem} (hW : WS n s) (hn : n < 1000000) : cOK miX5_about [zr 0, zi i, zi w] s (r_about s i w) := by
  intro D P hC hP
  have h := hC.1.1
  unfold r_about at hP
  refine e_X5_about ?_
  simp only [tX5_about_0, w_ic, w_lc, w_lds, w_ild, w_lld, w_ald, w_ist, w_lst, w_ast, w_iinc, w_iadd, w_isub, w_imul, w_idiv, w_irem, w_iand, w_ior, w_ixor, w_ishl, w_ishr, w_iushr, w_ineg, w_ladd, w_lsub, w_lmul, w_ldiv, w_lrem, w_lcmp, w_i2l, w_l2i, w_dup, w_pop, w_dup2, w_ieq, w_zeq, w_ine, w_zne, w_ilt, w_zlt, w_ige, w_zge, w_igt, w_zgt, w_ile, w_zle, w_cut, w_tsw, zsw, w_iret, w_zret, w_lret, w_vret, w_nret, w_getI, w_getJ, w_getR, w_putI, w_putZ, w_putJ, w_iald, w_zald, w_iast, w_zast, w_alen, w_sI, w_sJ, w_sV, w_vI, w_vJ, w_vV, w_tI, w_mmax, w_mmin, w_mabs, w_lmax, w_acopy, gL, sL, kl_i, kl_l, kl_r, kl_s, kl_m, qI_i, qJ_l, qA_r, qA_s, pI_i, pJ_l, pA_r, pS_s, pM_m, pV_v, c1_i, c1_r, c1_s, c1_m, cS_0, cS_i, cS_l, cS_r, cS_s, cS_m, pN, z_rc_r, zE1, zE2, zE3, true_and, and_true, Nat.zero_add, Nat.reduceAdd, Nat.reduceLeDiff, true_or, or_true, q0, qp4, qp5, qp8, qp9, qf0, qz0, qf1, qz1, qf2, qz2, qf3, qz3, qf6, qz6, qf7, qz7, qf10, qz10, qf11, qz11, qf12, qz12, qf13, qz13, qf14, qz14, k1o, k1m, k1f0, k1z0, k1f1, k1z1, k1f2, k1z2, k1f3, k1z3, k1f4, k1z4, k1f5, k1z5, k1f6, k1z6, k1f7, k1z7, k1r0, k1r1, k1r2, k1r3, k1r4, k1r5, k1r6, k1w, k109, k109a, k109b, k109c, k109d, k109e, k109f, k109g, kr110, kr112, kr114, kr116, kr118, kr120, kr122]
  refine c_Rows_has bk1.r2 (fun c0 c1 => ⟨fun w => absurd w (by decide), fun _ => ?_⟩) (fun q => ⟨fun _ => ?_, fun w => absurd rfl w⟩)
  · rw [h.2.1.1.2.2.1] at c1
    refine c_within (fun c2 c3 => ⟨fun _ => ?_, fun w => absurd (by decide) w⟩) (fun q => ⟨fun w => absurd rfl w, fun _ => ?_⟩)
    · rw [cIf_t ⟨⟨c0, c1⟩, c2, c3⟩] at hP
      refine ⟨fun q1 => ?_, fun q1 => ?_⟩
      · rw [cIf_f q1] at hP
        exact c_wget bk1 h c0 c1 (by omega) (by omega) (hP D Fr.rfl hC)
      · rw [cIf_t (by omega)] at hP
        exact c_heardAt bk1 h c0 c1 fun D1 d1 d2 => hP D1 (d1.wide (by omega) (by omega)) (hC.same (d1.wide (by omega) (by omega)) d2)
    · rw [cIf_f (fun w => q w.2)] at hP
      exact c_bad hC hW hn hP
  · rw [h.2.1.1.2.2.1] at q
    rw [cIf_f (fun w => q w.1)] at hP
    exact c_bad hC hW hn hP
noncomputable def r_rungs (s : Mem) (i w : Int) : Int × Mem := cIf ((0 ≤ i ∧ i < s 0 0) ∧ 0 ≤ w ∧ w ≤ 1) (s 0 (4 + 6 * w + i), s) (-2, sRf s 3)
theorem v_rungs {n i w : Int} {s : Mem} (hW : WS n s) (hn : n < 1000000) : cOK miX5_rungs [zr 0, zi i, zi w] s (r_rungs s i w) := by
  intro D P hC hP
  have h := hC.1.1
  unfold r_rungs at hP
  refine e_X5_rungs ?_
  simp only [tX5_rungs_0, w_ic, w_lc, w_lds, w_ild, w_lld, w_ald, w_ist, w_lst, w_ast, w_iinc, w_iadd, w_isub, w_imul, w_idiv, w_irem, w_iand, w_ior, w_ixor, w_ishl, w_ishr, w_iushr, w_ineg, w_ladd, w_lsub, w_lmul, w_ldiv, w_lrem, w_lcmp, w_i2l, w_l2i, w_dup, w_pop, w_dup2, w_ieq, w_zeq, w_ine, w_zne, w_ilt, w_zlt, w_ige, w_zge, w_igt, w_zgt, w_ile, w_zle, w_cut, w_tsw, zsw, w_iret, w_zret, w_lret, w_vret, w_nret, w_getI, w_getJ, w_getR, w_putI, w_putZ, w_putJ, w_iald, w_zald, w_iast, w_zast, w_alen, w_sI, w_sJ, w_sV, w_vI, w_vJ, w_vV, w_tI, w_mmax, w_mmin, w_mabs, w_lmax, w_acopy, gL, sL, kl_i, kl_l, kl_r, kl_s, kl_m, qI_i, qJ_l, qA_r, qA_s, pI_i, pJ_l, pA_r, pS_s, pM_m, pV_v, c1_i, c1_r, c1_s, c1_m, cS_0, cS_i, cS_l, cS_r, cS_s, cS_m, pN, z_rc_r, zE1, zE2, zE3, true_and, and_true, Nat.zero_add, Nat.reduceAdd, Nat.reduceLeDiff, true_or, or_true, q0, qp4, qp5, qp8, qp9, qf0, qz0, qf1, qz1, qf2, qz2, qf3, qz3, qf6, qz6, qf7, qz7, qf10, qz10, qf11, qz11, qf12, qz12, qf13, qz13, qf14, qz14, k1o, k1m, k1f0, k1z0, k1f1, k1z1, k1f2, k1z2, k1f3, k1z3, k1f4, k1z4, k1f5, k1z5, k1f6, k1z6, k1f7, k1z7, k1r0, k1r1, k1r2, k1r3, k1r4, k1r5, k1r6, k1w, k109, k109a, k109b, k109c, k109d, k109e, k109f, k109g, kr110, kr112, kr114, kr116, kr118, kr120, kr122]
  refine c_Rows_has bk1.r0 (fun c0 c1 => ⟨fun w => absurd w (by decide), fun _ => ?_⟩) (fun q => ⟨fun _ => ?_, fun w => absurd rfl w⟩)
  · rw [h.2.1.1.1] at c1
    refine c_within (fun c2 c3 => ⟨fun _ => ?_, fun w => absurd (by decide) w⟩) (fun q => ⟨fun w => absurd rfl w, fun _ => ?_⟩)
    · rw [cIf_t ⟨⟨c0, c1⟩, c2, c3⟩] at hP
      exact c_lget bk1 h c0 c1 (by omega) (by omega) (hP D Fr.rfl hC)
    · rw [cIf_f (fun w => q w.2)] at hP
      exact c_bad hC hW hn hP
  · rw [h.2.1.1.1] at q
    rw [cIf_f (fun w => q w.1)] at hP
    exact c_bad hC hW hn hP
noncomputable def r_far (s : Mem) (x y : Int) : Int × Mem := cIf (inC x ∧ inC y) (sD (sOp (s 0)) y x, s) (-2, sRf s 3)
theorem v_far {n x y : Int} {s : Mem} (hW : WS n s) (hn : n < 1000000) : cOK miX5_far [zr 0, zi x, zi y] s (r_far s x y) := by
  intro D P hC hP
  have h := hC.1.1
  unfold r_far at hP
  refine e_X5_far ?_
  simp only [tX5_far_0, w_ic, w_lc, w_lds, w_ild, w_lld, w_ald, w_ist, w_lst, w_ast, w_iinc, w_iadd, w_isub, w_imul, w_idiv, w_irem, w_iand, w_ior, w_ixor, w_ishl, w_ishr, w_iushr, w_ineg, w_ladd, w_lsub, w_lmul, w_ldiv, w_lrem, w_lcmp, w_i2l, w_l2i, w_dup, w_pop, w_dup2, w_ieq, w_zeq, w_ine, w_zne, w_ilt, w_zlt, w_ige, w_zge, w_igt, w_zgt, w_ile, w_zle, w_cut, w_tsw, zsw, w_iret, w_zret, w_lret, w_vret, w_nret, w_getI, w_getJ, w_getR, w_putI, w_putZ, w_putJ, w_iald, w_zald, w_iast, w_zast, w_alen, w_sI, w_sJ, w_sV, w_vI, w_vJ, w_vV, w_tI, w_mmax, w_mmin, w_mabs, w_lmax, w_acopy, gL, sL, kl_i, kl_l, kl_r, kl_s, kl_m, qI_i, qJ_l, qA_r, qA_s, pI_i, pJ_l, pA_r, pS_s, pM_m, pV_v, c1_i, c1_r, c1_s, c1_m, cS_0, cS_i, cS_l, cS_r, cS_s, cS_m, pN, z_rc_r, zE1, zE2, zE3, true_and, and_true, Nat.zero_add, Nat.reduceAdd, Nat.reduceLeDiff, true_or, or_true, q0, qp4, qp5, qp8, qp9, qf0, qz0, qf1, qz1, qf2, qz2, qf3, qz3, qf6, qz6, qf7, qz7, qf10, qz10, qf11, qz11, qf12, qz12, qf13, qz13, qf14, qz14, k1o, k1m, k1f0, k1z0, k1f1, k1z1, k1f2, k1z2, k1f3, k1z3, k1f4, k1z4, k1f5, k1z5, k1f6, k1z6, k1f7, k1z7, k1r0, k1r1, k1r2, k1r3, k1r4, k1r5, k1r6, k1w, k109, k109a, k109b, k109c, k109d, k109e, k109f, k109g, kr110, kr112, kr114, kr116, kr118, kr120, kr122]
  refine c_isCell (fun c2 => ⟨fun w => absurd w (by decide), fun _ => ?_⟩) (fun q => ⟨fun _ => ?_, fun w => absurd rfl w⟩)
  · refine c_isCell (fun c3 => ⟨fun _ => ?_, fun w => absurd (by decide) w⟩) (fun q => ⟨fun w => absurd rfl w, fun _ => ?_⟩)
    · rw [cIf_t ⟨c2, c3⟩] at hP
      exact c_stepsBetween bk1 h c2 c3 fun D1 d1 d2 => hP D1 (d1.wide (by omega) (by omega)) (hC.same (d1.wide (by omega) (by omega)) d2)
    · rw [cIf_f (fun w => q w.2)] at hP
      exact c_bad hC hW hn hP
  · rw [cIf_f (fun w => q w.1)] at hP
    exact c_bad hC hW hn hP
