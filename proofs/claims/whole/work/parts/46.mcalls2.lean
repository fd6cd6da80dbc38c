/-! ===== 46: the model: calls that tell a back ===== -/
theorem zA_comm {a : Int → Int} {k l x y : Int} (h : k ≠ l) : zA (zA a k x) l y = zA (zA a l y) k x := by
  funext j
  unfold zA
  by_cases e : j = l
  · rw [if_pos e, if_neg (by omega), if_pos e]
  · rw [if_neg e]
    by_cases e2 : j = k
    · rw [if_pos e2, if_pos e2]
    · rw [if_neg e2, if_neg e2, if_neg e]
theorem m_ladder {n c : Int} {s : Mem} (hW : WS n s) (hn : n < 1000000) : mOK miX6_ladder [zr 124, zi c] s (r_ladder s c) := by
  intro D P hM hP
  have w := hW.1.1
  have n0 := w.n0
  have h := hM.1
  have bad : ¬ ((0 ≤ c ∧ c ≤ 15) ∧ ∀ k, 0 ≤ k → k < s 0 0 → s 0 (4 + k) ≠ c) → zC miX6_bad [zr 124, zi (-2)] D P := by
    intro q
    unfold r_ladder at hP
    rw [cIf_f q] at hP
    exact m_bad hM hW hn hP
  refine e_X6_ladder ?_
  simp only [tX6_ladder_0, w_ic, w_lc, w_lds, w_ild, w_lld, w_ald, w_ist, w_lst, w_ast, w_iinc, w_iadd, w_isub, w_imul, w_idiv, w_irem, w_iand, w_ior, w_ixor, w_ishl, w_ishr, w_iushr, w_ineg, w_ladd, w_lsub, w_lmul, w_ldiv, w_lrem, w_lcmp, w_i2l, w_l2i, w_dup, w_pop, w_dup2, w_ieq, w_zeq, w_ine, w_zne, w_ilt, w_zlt, w_ige, w_zge, w_igt, w_zgt, w_ile, w_zle, w_cut, w_tsw, zsw, w_iret, w_zret, w_lret, w_vret, w_nret, w_getI, w_getJ, w_getR, w_putI, w_putZ, w_putJ, w_iald, w_zald, w_iast, w_zast, w_alen, w_sI, w_sJ, w_sV, w_vI, w_vJ, w_vV, w_tI, w_mmax, w_mmin, w_mabs, w_lmax, w_acopy, gL, sL, kl_i, kl_l, kl_r, kl_s, kl_m, qI_i, qJ_l, qA_r, qA_s, pI_i, pJ_l, pA_r, pS_s, pM_m, pV_v, c1_i, c1_r, c1_s, c1_m, cS_0, cS_i, cS_l, cS_r, cS_s, cS_m, pN, z_rc_r, zE1, zE2, zE3, true_and, and_true, Nat.zero_add, Nat.reduceAdd, Nat.reduceLeDiff, true_or, or_true, Int.reduceLE, Int.reduceLT, zcmp_l, zcmp_g, zcmp_e, zcmp_le, mo, mf0, mz0, mf1, mz1, mf2, mz2, mf6, mz6, mf10, mz10, mf11, mz11, mf12, mz12, mf13, mz13, mf14, mz14, mf16, mz16, mf17, mz17, mf18, mz18, mf19, mz19, mi3, mi7, mi8, mi9, mi15, mi4, mi5, mi20, ma125, mn125, ma126, mn126, ma127, mn127, ma128, mn128, ma129, mn129, ma130, mn130, ma131, mn131, ma132, mn132, ma133, mn133, ma134, mn134, ma135, mn135, ma136, mn136, ma137, mn137]
  refine m_in (fun q => ⟨fun w => absurd w (by decide), fun _ => ?_⟩) (fun q => ⟨fun _ => bad (by omega), fun w => absurd rfl w⟩)
  refine m_hasLadder (Or.inl rfl) h.q n0 (fun q2 => ⟨fun w => absurd w (by decide), fun _ => bad fun w => q2 w.2⟩) (fun q2 => ⟨fun _ => ?_, fun w => absurd rfl w⟩)
  unfold r_ladder at hP
  rw [cIf_t ⟨q, q2⟩] at hP
  rw [h.z (by omega) (by omega)]
  refine ⟨fun q3 => ?_, fun q3 => ?_⟩
  · rw [cIf_f q3] at hP
    refine m_addsLadder (Or.inl rfl) h (by omega) fun D' f h' => ?_
    have h2 := h'.up (k' := 120) (k := 120) (x := 0) (by omega)
    have e0 := h2.z (j := 0) (by omega) (by omega)
    rw [zA_n (by decide), show sAddL (s 0) c 0 = s 0 0 + 1 from zA_s] at e0
    have f2 : yE 0 D (zU D' 125 120 0) := f.trans (yE.up (by omega) (by omega))
    rw [e0]
    refine ⟨⟨by omega, by omega⟩, ?_⟩
    have hf := hM.now f2.n h2
    have e : zA (sAddL (s 0) c) 120 0 = sAddL (zA (s 0) 120 0) c := by
      unfold sAddL
      rw [zA_n (by decide), zA_comm (k := 0) (l := 120) (by decide), zA_comm (k := 10 + s 0 0) (l := 120) (by omega), zA_comm (k := 4 + s 0 0) (l := 120) (by omega)]
    rw [e] at hf
    rw [show s 0 0 + 1 - 1 = s 0 0 by omega]
    exact hP _ f2.n.fr hf
  · rw [cIf_t (Decidable.not_not.mp q3)] at hP
    exact m_full hM hW hn hP
theorem m_addsGoer {r x y z : Int} {a : Int → Int} {D : Mem} {P : Int → Mem → Prop} (hr : rOK r) (h : yR D r a) (n0 : 0 ≤ a 1 ∧ a 1 < 6) (hP : ∀ D', yE r D D' → yR D' r (sAddG a x y z) → P 0 D') : zC miX6_addsGoer [zr 124, zi r, zi x, zi y, zi z] D P := by
  have hb := hr.b
  have g1 := h.up (k' := r + 16 + a 1) (k := 16 + a 1) (x := x) (by omega)
  have g2 := g1.up (k' := r + 22 + a 1) (k := 22 + a 1) (x := y) (by omega)
  have g3 := g2.up (k' := r + 28 + a 1) (k := 28 + a 1) (x := z) (by omega)
  have g4 := g3.up (k' := r + 34 + a 1) (k := 34 + a 1) (x := y) (by omega)
  have g5 := g4.up (k' := r + 40 + a 1) (k := 40 + a 1) (x := 0) (by omega)
  have e5 := g5 1 (by omega) (by omega)
  rw [zA_n (by omega), zA_n (by omega), zA_n (by omega), zA_n (by omega), zA_n (by omega)] at e5
  refine e_X6_addsGoer ?_
  simp only [tX6_addsGoer_0, w_ic, w_lc, w_lds, w_ild, w_lld, w_ald, w_ist, w_lst, w_ast, w_iinc, w_iadd, w_isub, w_imul, w_idiv, w_irem, w_iand, w_ior, w_ixor, w_ishl, w_ishr, w_iushr, w_ineg, w_ladd, w_lsub, w_lmul, w_ldiv, w_lrem, w_lcmp, w_i2l, w_l2i, w_dup, w_pop, w_dup2, w_ieq, w_zeq, w_ine, w_zne, w_ilt, w_zlt, w_ige, w_zge, w_igt, w_zgt, w_ile, w_zle, w_cut, w_tsw, zsw, w_iret, w_zret, w_lret, w_vret, w_nret, w_getI, w_getJ, w_getR, w_putI, w_putZ, w_putJ, w_iald, w_zald, w_iast, w_zast, w_alen, w_sI, w_sJ, w_sV, w_vI, w_vJ, w_vV, w_tI, w_mmax, w_mmin, w_mabs, w_lmax, w_acopy, gL, sL, kl_i, kl_l, kl_r, kl_s, kl_m, qI_i, qJ_l, qA_r, qA_s, pI_i, pJ_l, pA_r, pS_s, pM_m, pV_v, c1_i, c1_r, c1_s, c1_m, cS_0, cS_i, cS_l, cS_r, cS_s, cS_m, pN, z_rc_r, zE1, zE2, zE3, true_and, and_true, Nat.zero_add, Nat.reduceAdd, Nat.reduceLeDiff, true_or, or_true, Int.reduceLE, Int.reduceLT, zcmp_l, zcmp_g, zcmp_e, zcmp_le, mo, mf0, mz0, mf1, mz1, mf2, mz2, mf6, mz6, mf10, mz10, mf11, mz11, mf12, mz12, mf13, mz13, mf14, mz14, mf16, mz16, mf17, mz17, mf18, mz18, mf19, mz19, mi3, mi7, mi8, mi9, mi15, mi4, mi5, mi20, ma125, mn125, ma126, mn126, ma127, mn127, ma128, mn128, ma129, mn129, ma130, mn130, ma131, mn131, ma132, mn132, ma133, mn133, ma134, mn134, ma135, mn135, ma136, mn136, ma137, mn137]
  rw [h 1 (by omega) (by omega), e5]
  repeat' (with_reducible apply And.intro)
  all_goals first | omega | exact ⟨by omega, by omega⟩ | skip
  exact hP _ ((yE.up (by omega) (by omega)).trans ((yE.up (by omega) (by omega)).trans ((yE.up (by omega) (by omega)).trans ((yE.up (by omega) (by omega)).trans ((yE.up (by omega) (by omega)).trans (yE.up (by omega) (by omega))))))) (g5.up (by omega))
theorem m_goer {n x y z : Int} {s : Mem} (hW : WS n s) (hn : n < 1000000) : mOK miX6_goer [zr 124, zi x, zi y, zi z] s (r_goer s x y z) := by
  intro D P hM hP
  have w := hW.1.1
  have n1 := w.n1
  have h := hM.1
  have bad : ¬ ((0 ≤ x ∧ x ≤ 5) ∧ inC y ∧ inC z) → zC miX6_bad [zr 124, zi (-2)] D P := by
    intro q
    unfold r_goer at hP
    rw [cIf_f q] at hP
    exact m_bad hM hW hn hP
  refine e_X6_goer ?_
  simp only [tX6_goer_0, w_ic, w_lc, w_lds, w_ild, w_lld, w_ald, w_ist, w_lst, w_ast, w_iinc, w_iadd, w_isub, w_imul, w_idiv, w_irem, w_iand, w_ior, w_ixor, w_ishl, w_ishr, w_iushr, w_ineg, w_ladd, w_lsub, w_lmul, w_ldiv, w_lrem, w_lcmp, w_i2l, w_l2i, w_dup, w_pop, w_dup2, w_ieq, w_zeq, w_ine, w_zne, w_ilt, w_zlt, w_ige, w_zge, w_igt, w_zgt, w_ile, w_zle, w_cut, w_tsw, zsw, w_iret, w_zret, w_lret, w_vret, w_nret, w_getI, w_getJ, w_getR, w_putI, w_putZ, w_putJ, w_iald, w_zald, w_iast, w_zast, w_alen, w_sI, w_sJ, w_sV, w_vI, w_vJ, w_vV, w_tI, w_mmax, w_mmin, w_mabs, w_lmax, w_acopy, gL, sL, kl_i, kl_l, kl_r, kl_s, kl_m, qI_i, qJ_l, qA_r, qA_s, pI_i, pJ_l, pA_r, pS_s, pM_m, pV_v, c1_i, c1_r, c1_s, c1_m, cS_0, cS_i, cS_l, cS_r, cS_s, cS_m, pN, z_rc_r, zE1, zE2, zE3, true_and, and_true, Nat.zero_add, Nat.reduceAdd, Nat.reduceLeDiff, true_or, or_true, Int.reduceLE, Int.reduceLT, zcmp_l, zcmp_g, zcmp_e, zcmp_le, mo, mf0, mz0, mf1, mz1, mf2, mz2, mf6, mz6, mf10, mz10, mf11, mz11, mf12, mz12, mf13, mz13, mf14, mz14, mf16, mz16, mf17, mz17, mf18, mz18, mf19, mz19, mi3, mi7, mi8, mi9, mi15, mi4, mi5, mi20, ma125, mn125, ma126, mn126, ma127, mn127, ma128, mn128, ma129, mn129, ma130, mn130, ma131, mn131, ma132, mn132, ma133, mn133, ma134, mn134, ma135, mn135, ma136, mn136, ma137, mn137]
  refine m_in (fun q => ⟨fun w => absurd w (by decide), fun _ => ?_⟩) (fun q => ⟨fun _ => bad (by omega), fun w => absurd rfl w⟩)
  refine m_isCell (fun q1 => ⟨fun w => absurd w (by decide), fun _ => ?_⟩) (fun q1 => ⟨fun _ => bad (fun w => q1 w.2.1), fun w => absurd rfl w⟩)
  refine m_isCell (fun q2 => ⟨fun _ => ?_, fun w => absurd (by decide) w⟩) (fun q2 => ⟨fun w => absurd rfl w, fun _ => bad (fun w => q2 w.2.2)⟩)
  unfold r_goer at hP
  rw [cIf_t ⟨q, q1, q2⟩] at hP
  rw [h.z (by omega) (by omega)]
  refine ⟨fun q3 => ?_, fun q3 => ?_⟩
  · rw [cIf_f q3] at hP
    refine m_addsGoer (Or.inl rfl) h (by omega) fun D' f h' => ?_
    have h2 := h'.up (k' := 120) (k := 120) (x := 0) (by omega)
    have e0 := h2.z (j := 1) (by omega) (by omega)
    rw [zA_n (by decide), show sAddG (s 0) x y z 1 = s 0 1 + 1 from zA_s] at e0
    have f2 : yE 0 D (zU D' 125 120 0) := f.trans (yE.up (by omega) (by omega))
    rw [e0]
    refine ⟨⟨by omega, by omega⟩, ?_⟩
    have hf := hM.now f2.n h2
    have e : zA (sAddG (s 0) x y z) 120 0 = sAddG (zA (s 0) 120 0) x y z := by
      unfold sAddG
      rw [zA_n (by decide), zA_comm (k := 1) (l := 120) (by decide), zA_comm (k := 40 + s 0 1) (l := 120) (by omega), zA_comm (k := 34 + s 0 1) (l := 120) (by omega), zA_comm (k := 28 + s 0 1) (l := 120) (by omega), zA_comm (k := 22 + s 0 1) (l := 120) (by omega), zA_comm (k := 16 + s 0 1) (l := 120) (by omega)]
    rw [e] at hf
    rw [show s 0 1 + 1 - 1 = s 0 1 by omega]
    exact hP _ f2.n.fr hf
  · rw [cIf_t (Decidable.not_not.mp q3)] at hP
    exact m_full hM hW hn hP
theorem m_addsWindow {r x y : Int} {a : Int → Int} {D : Mem} {P : Int → Mem → Prop} (hr : rOK r) (h : yR D r a) (n0 : 0 ≤ a 2 ∧ a 2 < 4) (hP : ∀ D', yE r D D' → yR D' r (sAddW a x y) → P 0 D') : zC miX6_addsWindow [zr 124, zi r, zi x, zi y] D P := by
  have hb := hr.b
  have g1 := h.up (k' := r + 46 + a 2) (k := 46 + a 2) (x := x) (by omega)
  have g2 := g1.up (k' := r + 50 + a 2) (k := 50 + a 2) (x := y) (by omega)
  have e1 := g1 2 (by omega) (by omega)
  have e2 := g2 2 (by omega) (by omega)
  rw [zA_n (by omega)] at e1
  rw [zA_n (by omega), zA_n (by omega)] at e2
  refine e_X6_addsWindow ?_
  simp only [tX6_addsWindow_0, w_ic, w_lc, w_lds, w_ild, w_lld, w_ald, w_ist, w_lst, w_ast, w_iinc, w_iadd, w_isub, w_imul, w_idiv, w_irem, w_iand, w_ior, w_ixor, w_ishl, w_ishr, w_iushr, w_ineg, w_ladd, w_lsub, w_lmul, w_ldiv, w_lrem, w_lcmp, w_i2l, w_l2i, w_dup, w_pop, w_dup2, w_ieq, w_zeq, w_ine, w_zne, w_ilt, w_zlt, w_ige, w_zge, w_igt, w_zgt, w_ile, w_zle, w_cut, w_tsw, zsw, w_iret, w_zret, w_lret, w_vret, w_nret, w_getI, w_getJ, w_getR, w_putI, w_putZ, w_putJ, w_iald, w_zald, w_iast, w_zast, w_alen, w_sI, w_sJ, w_sV, w_vI, w_vJ, w_vV, w_tI, w_mmax, w_mmin, w_mabs, w_lmax, w_acopy, gL, sL, kl_i, kl_l, kl_r, kl_s, kl_m, qI_i, qJ_l, qA_r, qA_s, pI_i, pJ_l, pA_r, pS_s, pM_m, pV_v, c1_i, c1_r, c1_s, c1_m, cS_0, cS_i, cS_l, cS_r, cS_s, cS_m, pN, z_rc_r, zE1, zE2, zE3, true_and, and_true, Nat.zero_add, Nat.reduceAdd, Nat.reduceLeDiff, true_or, or_true, Int.reduceLE, Int.reduceLT, zcmp_l, zcmp_g, zcmp_e, zcmp_le, mo, mf0, mz0, mf1, mz1, mf2, mz2, mf6, mz6, mf10, mz10, mf11, mz11, mf12, mz12, mf13, mz13, mf14, mz14, mf16, mz16, mf17, mz17, mf18, mz18, mf19, mz19, mi3, mi7, mi8, mi9, mi15, mi4, mi5, mi20, ma125, mn125, ma126, mn126, ma127, mn127, ma128, mn128, ma129, mn129, ma130, mn130, ma131, mn131, ma132, mn132, ma133, mn133, ma134, mn134, ma135, mn135, ma136, mn136, ma137, mn137]
  rw [h 2 (by omega) (by omega), e1, e2]
  repeat' (with_reducible apply And.intro)
  all_goals first | omega | exact ⟨by omega, by omega⟩ | skip
  exact hP _ ((yE.up (by omega) (by omega)).trans ((yE.up (by omega) (by omega)).trans (yE.up (by omega) (by omega)))) (g2.up (by omega))
theorem m_window {n x y : Int} {s : Mem} (hW : WS n s) (hn : n < 1000000) : mOK miX6_window [zr 124, zi x, zi y] s (r_window s x y) := by
  intro D P hM hP
  have w := hW.1.1
  have n2 := w.n2
  have h := hM.1
  have bad : ¬ ((0 ≤ x ∧ x ≤ 5) ∧ inC y) → zC miX6_bad [zr 124, zi (-2)] D P := by
    intro q
    unfold r_window at hP
    rw [cIf_f q] at hP
    exact m_bad hM hW hn hP
  refine e_X6_window ?_
  simp only [tX6_window_0, w_ic, w_lc, w_lds, w_ild, w_lld, w_ald, w_ist, w_lst, w_ast, w_iinc, w_iadd, w_isub, w_imul, w_idiv, w_irem, w_iand, w_ior, w_ixor, w_ishl, w_ishr, w_iushr, w_ineg, w_ladd, w_lsub, w_lmul, w_ldiv, w_lrem, w_lcmp, w_i2l, w_l2i, w_dup, w_pop, w_dup2, w_ieq, w_zeq, w_ine, w_zne, w_ilt, w_zlt, w_ige, w_zge, w_igt, w_zgt, w_ile, w_zle, w_cut, w_tsw, zsw, w_iret, w_zret, w_lret, w_vret, w_nret, w_getI, w_getJ, w_getR, w_putI, w_putZ, w_putJ, w_iald, w_zald, w_iast, w_zast, w_alen, w_sI, w_sJ, w_sV, w_vI, w_vJ, w_vV, w_tI, w_mmax, w_mmin, w_mabs, w_lmax, w_acopy, gL, sL, kl_i, kl_l, kl_r, kl_s, kl_m, qI_i, qJ_l, qA_r, qA_s, pI_i, pJ_l, pA_r, pS_s, pM_m, pV_v, c1_i, c1_r, c1_s, c1_m, cS_0, cS_i, cS_l, cS_r, cS_s, cS_m, pN, z_rc_r, zE1, zE2, zE3, true_and, and_true, Nat.zero_add, Nat.reduceAdd, Nat.reduceLeDiff, true_or, or_true, Int.reduceLE, Int.reduceLT, zcmp_l, zcmp_g, zcmp_e, zcmp_le, mo, mf0, mz0, mf1, mz1, mf2, mz2, mf6, mz6, mf10, mz10, mf11, mz11, mf12, mz12, mf13, mz13, mf14, mz14, mf16, mz16, mf17, mz17, mf18, mz18, mf19, mz19, mi3, mi7, mi8, mi9, mi15, mi4, mi5, mi20, ma125, mn125, ma126, mn126, ma127, mn127, ma128, mn128, ma129, mn129, ma130, mn130, ma131, mn131, ma132, mn132, ma133, mn133, ma134, mn134, ma135, mn135, ma136, mn136, ma137, mn137]
  refine m_in (fun q => ⟨fun w => absurd w (by decide), fun _ => ?_⟩) (fun q => ⟨fun _ => bad (by omega), fun w => absurd rfl w⟩)
  refine m_isCell (fun q2 => ⟨fun _ => ?_, fun w => absurd (by decide) w⟩) (fun q2 => ⟨fun w => absurd rfl w, fun _ => bad (fun w => q2 w.2)⟩)
  unfold r_window at hP
  rw [cIf_t ⟨q, q2⟩] at hP
  rw [h.z (by omega) (by omega)]
  refine ⟨fun q3 => ?_, fun q3 => ?_⟩
  · rw [cIf_f q3] at hP
    refine m_addsWindow (Or.inl rfl) h (by omega) fun D' f h' => ?_
    have h2 := h'.up (k' := 120) (k := 120) (x := 0) (by omega)
    have e0 := h2.z (j := 2) (by omega) (by omega)
    rw [zA_n (by decide), show sAddW (s 0) x y 2 = s 0 2 + 1 from zA_s] at e0
    have f2 : yE 0 D (zU D' 125 120 0) := f.trans (yE.up (by omega) (by omega))
    rw [e0]
    refine ⟨⟨by omega, by omega⟩, ?_⟩
    have hf := hM.now f2.n h2
    have e : zA (sAddW (s 0) x y) 120 0 = sAddW (zA (s 0) 120 0) x y := by
      unfold sAddW
      rw [zA_n (by decide), zA_comm (k := 2) (l := 120) (by decide), zA_comm (k := 50 + s 0 2) (l := 120) (by omega), zA_comm (k := 46 + s 0 2) (l := 120) (by omega)]
    rw [e] at hf
    rw [show s 0 2 + 1 - 1 = s 0 2 by omega]
    exact hP _ f2.n.fr hf
  · rw [cIf_t (Decidable.not_not.mp q3)] at hP
    exact m_full hM hW hn hP
theorem m_type {n c : Int} {s : Mem} (hW : WS n s) (hn : n < 1000000) : mOK miX6_type [zr 124, zi c] s (r_type s c) := by
  intro D P hM hP
  have l := hW.2.1.1
  have et := hM.2.2.1
  unfold r_type at hP
  refine e_X6_type ?_
  simp only [tX6_type_0, w_ic, w_lc, w_lds, w_ild, w_lld, w_ald, w_ist, w_lst, w_ast, w_iinc, w_iadd, w_isub, w_imul, w_idiv, w_irem, w_iand, w_ior, w_ixor, w_ishl, w_ishr, w_iushr, w_ineg, w_ladd, w_lsub, w_lmul, w_ldiv, w_lrem, w_lcmp, w_i2l, w_l2i, w_dup, w_pop, w_dup2, w_ieq, w_zeq, w_ine, w_zne, w_ilt, w_zlt, w_ige, w_zge, w_igt, w_zgt, w_ile, w_zle, w_cut, w_tsw, zsw, w_iret, w_zret, w_lret, w_vret, w_nret, w_getI, w_getJ, w_getR, w_putI, w_putZ, w_putJ, w_iald, w_zald, w_iast, w_zast, w_alen, w_sI, w_sJ, w_sV, w_vI, w_vJ, w_vV, w_tI, w_mmax, w_mmin, w_mabs, w_lmax, w_acopy, gL, sL, kl_i, kl_l, kl_r, kl_s, kl_m, qI_i, qJ_l, qA_r, qA_s, pI_i, pJ_l, pA_r, pS_s, pM_m, pV_v, c1_i, c1_r, c1_s, c1_m, cS_0, cS_i, cS_l, cS_r, cS_s, cS_m, pN, z_rc_r, zE1, zE2, zE3, true_and, and_true, Nat.zero_add, Nat.reduceAdd, Nat.reduceLeDiff, true_or, or_true, Int.reduceLE, Int.reduceLT, zcmp_l, zcmp_g, zcmp_e, zcmp_le, mo, mf0, mz0, mf1, mz1, mf2, mz2, mf6, mz6, mf10, mz10, mf11, mz11, mf12, mz12, mf13, mz13, mf14, mz14, mf16, mz16, mf17, mz17, mf18, mz18, mf19, mz19, mi3, mi7, mi8, mi9, mi15, mi4, mi5, mi20, ma125, mn125, ma126, mn126, ma127, mn127, ma128, mn128, ma129, mn129, ma130, mn130, ma131, mn131, ma132, mn132, ma133, mn133, ma134, mn134, ma135, mn135, ma136, mn136, ma137, mn137]
  refine m_in (fun q => ⟨fun _ => ?_, fun w => absurd (by decide) w⟩) (fun q => ⟨fun w => absurd rfl w, fun _ => ?_⟩)
  · rw [cIf_t q] at hP
    rw [et.1]
    refine ⟨fun q2 => ?_, fun q2 => ?_⟩
    · rw [cIf_f q2] at hP
      rw [zU_o (by decide), et.1, zU_s]
      refine ⟨by omega, by omega, ⟨by omega, by omega⟩, ?_⟩
      refine hP _ ((Fr.up (by omega) (by omega)).trans (Fr.up (by omega) (by omega))) (show yS _ (sU (sU s 3 (zA (s 3) (s 4 0) c)) 4 (zA (s 4) 0 (s 4 0 + 1))) from ?_)
      have hx : ∀ o, o ≠ 124 → o ≠ 127 → zU (zU D 127 (s 4 0) c) 124 3 (s 4 0 + 1) o = D o := fun o p q => by rw [zU_ne p, zU_ne q]
      obtain ⟨h1, ⟨h2, h3⟩, h5, h6, h9, h12⟩ := hM
      have k5 := hx 125 (by decide) (by decide)
      refine ⟨?_, ⟨?_, ?_⟩, ?_⟩
      · unfold yR
        rw [k5, sU_n (by decide), sU_n (by decide)]; exact h1
      · unfold yR
        rw [k5, sU_n (by decide), sU_n (by decide)]; exact h2
      · unfold yR
        rw [k5, sU_n (by decide), sU_n (by decide)]; exact h3
      · unfold yT
        rw [sU_s, sU_n (by decide), sU_s, hx 126 (by decide) (by decide), hx 128 (by decide) (by decide), zA_s, zA_n (by decide), zA_n (by decide), zA_n (by decide), zA_n (by decide), zA_n (by decide), zA_n (by decide), zA_n (by decide)]
        refine ⟨⟨zU_s, fun j p q => ?_⟩, h6, h9, ?_⟩
        · rw [zU_o (by decide)]
          by_cases e : j = s 4 0
          · rw [e, zU_s, zA_s]
          · rw [zU_k e, zA_n e]; exact h5.2 j p (by omega)
        · rw [zU_k (k' := 4) (by decide), zU_k (k' := 5) (by decide), zU_ne (o' := 124) (o := 127) (by decide)]; exact h12
    · rw [cIf_t (Decidable.not_not.mp q2)] at hP
      exact m_full hM hW hn hP
  · rw [cIf_f q] at hP
    exact m_bad hM hW hn hP
theorem m_clear {s : Mem} : mOK miX6_clear [zr 124] s (r_clear s) := by
  intro D P hM hP
  have et := hM.2.2.1
  refine e_X6_clear ?_
  simp only [tX6_clear_0, w_ic, w_lc, w_lds, w_ild, w_lld, w_ald, w_ist, w_lst, w_ast, w_iinc, w_iadd, w_isub, w_imul, w_idiv, w_irem, w_iand, w_ior, w_ixor, w_ishl, w_ishr, w_iushr, w_ineg, w_ladd, w_lsub, w_lmul, w_ldiv, w_lrem, w_lcmp, w_i2l, w_l2i, w_dup, w_pop, w_dup2, w_ieq, w_zeq, w_ine, w_zne, w_ilt, w_zlt, w_ige, w_zge, w_igt, w_zgt, w_ile, w_zle, w_cut, w_tsw, zsw, w_iret, w_zret, w_lret, w_vret, w_nret, w_getI, w_getJ, w_getR, w_putI, w_putZ, w_putJ, w_iald, w_zald, w_iast, w_zast, w_alen, w_sI, w_sJ, w_sV, w_vI, w_vJ, w_vV, w_tI, w_mmax, w_mmin, w_mabs, w_lmax, w_acopy, gL, sL, kl_i, kl_l, kl_r, kl_s, kl_m, qI_i, qJ_l, qA_r, qA_s, pI_i, pJ_l, pA_r, pS_s, pM_m, pV_v, c1_i, c1_r, c1_s, c1_m, cS_0, cS_i, cS_l, cS_r, cS_s, cS_m, pN, z_rc_r, zE1, zE2, zE3, true_and, and_true, Nat.zero_add, Nat.reduceAdd, Nat.reduceLeDiff, true_or, or_true, Int.reduceLE, Int.reduceLT, zcmp_l, zcmp_g, zcmp_e, zcmp_le, mo, mf0, mz0, mf1, mz1, mf2, mz2, mf6, mz6, mf10, mz10, mf11, mz11, mf12, mz12, mf13, mz13, mf14, mz14, mf16, mz16, mf17, mz17, mf18, mz18, mf19, mz19, mi3, mi7, mi8, mi9, mi15, mi4, mi5, mi20, ma125, mn125, ma126, mn126, ma127, mn127, ma128, mn128, ma129, mn129, ma130, mn130, ma131, mn131, ma132, mn132, ma133, mn133, ma134, mn134, ma135, mn135, ma136, mn136, ma137, mn137]
  rw [et.1]
  refine hP _ (Fr.up (by omega) (by omega)) (show yS _ (sU s 4 (zA (s 4) 0 0)) from ?_)
  obtain ⟨h1, ⟨h2, h3⟩, h5, h6, h9, h12⟩ := hM
  refine ⟨?_, ⟨?_, ?_⟩, ?_⟩
  · rw [sU_n (by decide)]; exact h1.o (by decide)
  · rw [sU_n (by decide)]; exact h2.o (by decide)
  · rw [sU_n (by decide)]; exact h3.o (by decide)
  · unfold yT
    rw [sU_s, sU_n (by decide), zU_ne (o' := 126) (by decide), zU_ne (o' := 128) (by decide), zU_ne (o' := 127) (by decide), zA_s, zA_n (by decide), zA_n (by decide), zA_n (by decide), zA_n (by decide), zA_n (by decide), zA_n (by decide), zA_n (by decide)]
    exact ⟨⟨zU_s, fun j p q => by omega⟩, h6, h9, by rw [zU_k (by decide), zU_k (by decide)]; exact h12⟩
