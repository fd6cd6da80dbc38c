/-! ===== 50: the model: shy, nights, images, counts, digest ===== -/
theorem m_getsA {a : Int → Int} {x y i j : Int} {D : Mem} {P : Int → Mem → Prop} (hf : ∀ m : Nat, m ≤ 60 → D 132 m = sAt a x m) (hg : ∀ m : Nat, m ≤ 60 → D 133 m = sAt a y m) (i0 : 0 ≤ i) (i1 : i < 10) (j0 : 0 ≤ j) (j1 : j < 10) (hP : P (sGA a x y i j) D) : zC miX6_getsBy [zr 124, zi i, zi j, zi 1] D P := by
  refine e_X6_getsBy ?_
  simp only [tX6_getsBy_0, w_ic, w_lc, w_lds, w_ild, w_lld, w_ald, w_ist, w_lst, w_ast, w_iinc, w_iadd, w_isub, w_imul, w_idiv, w_irem, w_iand, w_ior, w_ixor, w_ishl, w_ishr, w_iushr, w_ineg, w_ladd, w_lsub, w_lmul, w_ldiv, w_lrem, w_lcmp, w_i2l, w_l2i, w_dup, w_pop, w_dup2, w_ieq, w_zeq, w_ine, w_zne, w_ilt, w_zlt, w_ige, w_zge, w_igt, w_zgt, w_ile, w_zle, w_cut, w_tsw, zsw, w_iret, w_zret, w_lret, w_vret, w_nret, w_getI, w_getJ, w_getR, w_putI, w_putZ, w_putJ, w_iald, w_zald, w_iast, w_zast, w_alen, w_sI, w_sJ, w_sV, w_vI, w_vJ, w_vV, w_tI, w_mmax, w_mmin, w_mabs, w_lmax, w_acopy, gL, sL, kl_i, kl_l, kl_r, kl_s, kl_m, qI_i, qJ_l, qA_r, qA_s, pI_i, pJ_l, pA_r, pS_s, pM_m, pV_v, c1_i, c1_r, c1_s, c1_m, cS_0, cS_i, cS_l, cS_r, cS_s, cS_m, pN, z_rc_r, zE1, zE2, zE3, true_and, and_true, Nat.zero_add, Nat.reduceAdd, Nat.reduceLeDiff, true_or, or_true, Int.reduceLE, Int.reduceLT, zcmp_l, zcmp_g, zcmp_e, zcmp_le, mo, mf0, mz0, mf1, mz1, mf2, mz2, mf6, mz6, mf10, mz10, mf11, mz11, mf12, mz12, mf13, mz13, mf14, mz14, mf16, mz16, mf17, mz17, mf18, mz18, mf19, mz19, mi3, mi7, mi8, mi9, mi15, mi4, mi5, mi20, ma125, mn125, ma126, mn126, ma127, mn127, ma128, mn128, ma129, mn129, ma130, mn130, ma131, mn131, ma132, mn132, ma133, mn133, ma134, mn134, ma135, mn135, ma136, mn136, ma137, mn137]
  refine m_meetBy hf hg i0 (by omega) j0 (by omega) (by decide) (by decide) ?_
  rw [show ((30 : Int) + 1).toNat = 31 from rfl]
  unfold sGA sMe at hP
  rcases zFst_spec (p := sMt (sAt a x) (sAt a y) i j) 31 with ⟨e, _⟩ | ⟨e0, e1, _⟩
  · rw [e] at hP ⊢
    rw [if_pos rfl] at hP
    refine ⟨fun _ => ⟨fun _ => ⟨fun w => absurd w (by decide), fun _ => ⟨i0, ⟨by omega, by omega⟩, ?_⟩⟩, fun w => absurd (by decide) w⟩, fun w => absurd (by decide) w⟩
    rw [show 0 - i / 3 = 5 * 0 - i / 3 by omega]
    exact hP
  · rw [if_neg (by omega)] at hP
    unfold zFar
    rw [if_neg (by omega)]
    refine ⟨fun w => absurd w (by omega), fun _ => ⟨fun w => absurd trivial w, fun _ => ⟨fun w => absurd w (by decide), fun _ => ⟨i0, ⟨by omega, by omega⟩, ?_⟩⟩⟩⟩
    rw [show 5 - i / 3 = 5 * 1 - i / 3 by omega]
    exact hP
theorem m_getsB {a : Int → Int} {x y i j : Int} {D : Mem} {P : Int → Mem → Prop} (hf : ∀ m : Nat, m ≤ 60 → D 132 m = sAt a x m) (hg : ∀ m : Nat, m ≤ 60 → D 133 m = sAt a y m) (i0 : 0 ≤ i) (i1 : i < 10) (j0 : 0 ≤ j) (j1 : j < 10) (hP : P (sGB a x y i j) D) : zC miX6_getsBy [zr 124, zi i, zi j, zi 0] D P := by
  refine e_X6_getsBy ?_
  simp only [tX6_getsBy_0, w_ic, w_lc, w_lds, w_ild, w_lld, w_ald, w_ist, w_lst, w_ast, w_iinc, w_iadd, w_isub, w_imul, w_idiv, w_irem, w_iand, w_ior, w_ixor, w_ishl, w_ishr, w_iushr, w_ineg, w_ladd, w_lsub, w_lmul, w_ldiv, w_lrem, w_lcmp, w_i2l, w_l2i, w_dup, w_pop, w_dup2, w_ieq, w_zeq, w_ine, w_zne, w_ilt, w_zlt, w_ige, w_zge, w_igt, w_zgt, w_ile, w_zle, w_cut, w_tsw, zsw, w_iret, w_zret, w_lret, w_vret, w_nret, w_getI, w_getJ, w_getR, w_putI, w_putZ, w_putJ, w_iald, w_zald, w_iast, w_zast, w_alen, w_sI, w_sJ, w_sV, w_vI, w_vJ, w_vV, w_tI, w_mmax, w_mmin, w_mabs, w_lmax, w_acopy, gL, sL, kl_i, kl_l, kl_r, kl_s, kl_m, qI_i, qJ_l, qA_r, qA_s, pI_i, pJ_l, pA_r, pS_s, pM_m, pV_v, c1_i, c1_r, c1_s, c1_m, cS_0, cS_i, cS_l, cS_r, cS_s, cS_m, pN, z_rc_r, zE1, zE2, zE3, true_and, and_true, Nat.zero_add, Nat.reduceAdd, Nat.reduceLeDiff, true_or, or_true, Int.reduceLE, Int.reduceLT, zcmp_l, zcmp_g, zcmp_e, zcmp_le, mo, mf0, mz0, mf1, mz1, mf2, mz2, mf6, mz6, mf10, mz10, mf11, mz11, mf12, mz12, mf13, mz13, mf14, mz14, mf16, mz16, mf17, mz17, mf18, mz18, mf19, mz19, mi3, mi7, mi8, mi9, mi15, mi4, mi5, mi20, ma125, mn125, ma126, mn126, ma127, mn127, ma128, mn128, ma129, mn129, ma130, mn130, ma131, mn131, ma132, mn132, ma133, mn133, ma134, mn134, ma135, mn135, ma136, mn136, ma137, mn137]
  refine m_meetBy hf hg i0 (by omega) j0 (by omega) (by decide) (by decide) ?_
  rw [show ((30 : Int) + 1).toNat = 31 from rfl]
  unfold sGB sMe at hP
  rcases zFst_spec (p := sMt (sAt a x) (sAt a y) i j) 31 with ⟨e, _⟩ | ⟨e0, e1, _⟩
  · rw [e] at hP ⊢
    rw [if_pos rfl] at hP
    refine ⟨fun _ => ⟨fun w => absurd trivial w, fun _ => ⟨fun _ => ⟨j0, ⟨by omega, by omega⟩, ?_⟩, fun w => absurd trivial w⟩⟩, fun w => absurd (by decide) w⟩
    rw [show 5 - j / 3 = 5 - 5 * 0 - j / 3 by omega]
    exact hP
  · rw [if_neg (by omega)] at hP
    unfold zFar
    rw [if_neg (by omega)]
    refine ⟨fun w => absurd w (by omega), fun _ => ⟨fun _ => ⟨fun _ => ⟨j0, ⟨by omega, by omega⟩, ?_⟩, fun w => absurd trivial w⟩, fun w => absurd (by decide) w⟩⟩
    rw [show 0 - j / 3 = 5 - 5 * 1 - j / 3 by omega]
    exact hP
theorem m_rests {a : Int → Int} {x y t : Int} {D : Mem} {P : Int → Mem → Prop} (hf : ∀ m : Nat, m ≤ 60 → D 132 m = sAt a x m) (hg : ∀ m : Nat, m ≤ 60 → D 133 m = sAt a y m) (t0 : 0 ≤ t) (t1 : t < 100) (h1 : sRs a x y t → P 1 D) (h0 : ¬ sRs a x y t → P 0 D) : zC miX6_rests [zr 124, zi (t / 10), zi (t % 10)] D P := by
  have a0 : 0 ≤ t / 10 := by omega
  have a1 : t / 10 < 10 := by omega
  have b0 : 0 ≤ t % 10 := by omega
  have b1 : t % 10 < 10 := by omega
  have hs : sRs a x y t ↔ wAl (fun o => sGA a x y o (t % 10) ≤ sGA a x y (t / 10) (t % 10) ∧ sGB a x y (t / 10) o ≤ sGB a x y (t / 10) (t % 10)) 10 := Iff.rfl
  have loop : ∀ (r : Nat) (o is : Int), (10 - o).toNat = r → 0 ≤ o → o ≤ 10 → (is = 0 ∧ ¬ wAl (fun o => sGA a x y o (t % 10) ≤ sGA a x y (t / 10) (t % 10) ∧ sGB a x y (t / 10) o ≤ sGB a x y (t / 10) (t % 10)) o) ∨ (is = 1 ∧ wAl (fun o => sGA a x y o (t % 10) ≤ sGA a x y (t / 10) (t % 10) ∧ sGB a x y (t / 10) o ≤ sGB a x y (t / 10) (t % 10)) o) → zW miX6_rests P 5 [zr 124, zi (t / 10), zi (t % 10), zi is, zi o] D := by
    intro r
    induction r with
    | zero =>
      intro o is hr o0 o1 hi
      have e : o = 10 := by omega
      rw [e, ← hs] at hi
      refine sX6_rests_5 _ _ _ _ _ ?_
      simp only [tX6_rests_5, w_ic, w_lc, w_lds, w_ild, w_lld, w_ald, w_ist, w_lst, w_ast, w_iinc, w_iadd, w_isub, w_imul, w_idiv, w_irem, w_iand, w_ior, w_ixor, w_ishl, w_ishr, w_iushr, w_ineg, w_ladd, w_lsub, w_lmul, w_ldiv, w_lrem, w_lcmp, w_i2l, w_l2i, w_dup, w_pop, w_dup2, w_ieq, w_zeq, w_ine, w_zne, w_ilt, w_zlt, w_ige, w_zge, w_igt, w_zgt, w_ile, w_zle, w_cut, w_tsw, zsw, w_iret, w_zret, w_lret, w_vret, w_nret, w_getI, w_getJ, w_getR, w_putI, w_putZ, w_putJ, w_iald, w_zald, w_iast, w_zast, w_alen, w_sI, w_sJ, w_sV, w_vI, w_vJ, w_vV, w_tI, w_mmax, w_mmin, w_mabs, w_lmax, w_acopy, gL, sL, kl_i, kl_l, kl_r, kl_s, kl_m, qI_i, qJ_l, qA_r, qA_s, pI_i, pJ_l, pA_r, pS_s, pM_m, pV_v, c1_i, c1_r, c1_s, c1_m, cS_0, cS_i, cS_l, cS_r, cS_s, cS_m, pN, z_rc_r, zE1, zE2, zE3, true_and, and_true, Nat.zero_add, Nat.reduceAdd, Nat.reduceLeDiff, true_or, or_true, Int.reduceLE, Int.reduceLT, zcmp_l, zcmp_g, zcmp_e, zcmp_le, mo, mf0, mz0, mf1, mz1, mf2, mz2, mf6, mz6, mf10, mz10, mf11, mz11, mf12, mz12, mf13, mz13, mf14, mz14, mf16, mz16, mf17, mz17, mf18, mz18, mf19, mz19, mi3, mi7, mi8, mi9, mi15, mi4, mi5, mi20, ma125, mn125, ma126, mn126, ma127, mn127, ma128, mn128, ma129, mn129, ma130, mn130, ma131, mn131, ma132, mn132, ma133, mn133, ma134, mn134, ma135, mn135, ma136, mn136, ma137, mn137]
      refine ⟨fun _ => ?_, fun w => absurd (by omega) w⟩
      rcases hi with ⟨e, hi⟩ | ⟨e, hi⟩
      · rw [e]; exact ⟨Or.inl rfl, h0 hi⟩
      · rw [e]; exact ⟨Or.inr rfl, h1 hi⟩
    | succ r ih =>
      intro o is hr o0 o1 hi
      have up := fun is' g => ih (o + 1) is' (by omega) (by omega) (by omega) g
      rw [wAl_s o0] at up
      refine sX6_rests_5 _ _ _ _ _ ?_
      simp only [tX6_rests_5, w_ic, w_lc, w_lds, w_ild, w_lld, w_ald, w_ist, w_lst, w_ast, w_iinc, w_iadd, w_isub, w_imul, w_idiv, w_irem, w_iand, w_ior, w_ixor, w_ishl, w_ishr, w_iushr, w_ineg, w_ladd, w_lsub, w_lmul, w_ldiv, w_lrem, w_lcmp, w_i2l, w_l2i, w_dup, w_pop, w_dup2, w_ieq, w_zeq, w_ine, w_zne, w_ilt, w_zlt, w_ige, w_zge, w_igt, w_zgt, w_ile, w_zle, w_cut, w_tsw, zsw, w_iret, w_zret, w_lret, w_vret, w_nret, w_getI, w_getJ, w_getR, w_putI, w_putZ, w_putJ, w_iald, w_zald, w_iast, w_zast, w_alen, w_sI, w_sJ, w_sV, w_vI, w_vJ, w_vV, w_tI, w_mmax, w_mmin, w_mabs, w_lmax, w_acopy, gL, sL, kl_i, kl_l, kl_r, kl_s, kl_m, qI_i, qJ_l, qA_r, qA_s, pI_i, pJ_l, pA_r, pS_s, pM_m, pV_v, c1_i, c1_r, c1_s, c1_m, cS_0, cS_i, cS_l, cS_r, cS_s, cS_m, pN, z_rc_r, zE1, zE2, zE3, true_and, and_true, Nat.zero_add, Nat.reduceAdd, Nat.reduceLeDiff, true_or, or_true, Int.reduceLE, Int.reduceLT, zcmp_l, zcmp_g, zcmp_e, zcmp_le, mo, mf0, mz0, mf1, mz1, mf2, mz2, mf6, mz6, mf10, mz10, mf11, mz11, mf12, mz12, mf13, mz13, mf14, mz14, mf16, mz16, mf17, mz17, mf18, mz18, mf19, mz19, mi3, mi7, mi8, mi9, mi15, mi4, mi5, mi20, ma125, mn125, ma126, mn126, ma127, mn127, ma128, mn128, ma129, mn129, ma130, mn130, ma131, mn131, ma132, mn132, ma133, mn133, ma134, mn134, ma135, mn135, ma136, mn136, ma137, mn137]
      refine ⟨fun w => absurd w (by omega), fun _ => ⟨fun q => ⟨⟨by omega, by omega⟩, up 0 (Or.inl ⟨rfl, fun g => ?_⟩)⟩, fun q => ?_⟩⟩
      · rcases hi with ⟨_, hi⟩ | ⟨hi, _⟩
        · exact hi g.1
        · omega
      · have hy : wAl (fun o => sGA a x y o (t % 10) ≤ sGA a x y (t / 10) (t % 10) ∧ sGB a x y (t / 10) o ≤ sGB a x y (t / 10) (t % 10)) o := by
          rcases hi with ⟨hi, _⟩ | ⟨_, hi⟩
          · exact absurd hi q
          · exact hi
        refine m_getsA hf hg o0 (by omega) b0 b1 ?_
        refine m_getsA hf hg a0 a1 b0 b1 ⟨fun q2 => ⟨⟨by omega, by omega⟩, up 0 (Or.inl ⟨rfl, fun g => ?_⟩)⟩, fun q2 => ?_⟩
        · have := g.2.1
          omega
        · refine m_getsB hf hg a0 a1 o0 (by omega) ?_
          refine m_getsB hf hg a0 a1 b0 b1 ⟨fun q3 => ⟨⟨by omega, by omega⟩, up 0 (Or.inl ⟨rfl, fun g => ?_⟩)⟩, fun q3 => ⟨⟨by omega, by omega⟩, up 1 (Or.inr ⟨rfl, hy, by omega, by omega⟩)⟩⟩
          have := g.2.2
          omega
  refine e_X6_rests ?_
  simp only [tX6_rests_0, w_ic, w_lc, w_lds, w_ild, w_lld, w_ald, w_ist, w_lst, w_ast, w_iinc, w_iadd, w_isub, w_imul, w_idiv, w_irem, w_iand, w_ior, w_ixor, w_ishl, w_ishr, w_iushr, w_ineg, w_ladd, w_lsub, w_lmul, w_ldiv, w_lrem, w_lcmp, w_i2l, w_l2i, w_dup, w_pop, w_dup2, w_ieq, w_zeq, w_ine, w_zne, w_ilt, w_zlt, w_ige, w_zge, w_igt, w_zgt, w_ile, w_zle, w_cut, w_tsw, zsw, w_iret, w_zret, w_lret, w_vret, w_nret, w_getI, w_getJ, w_getR, w_putI, w_putZ, w_putJ, w_iald, w_zald, w_iast, w_zast, w_alen, w_sI, w_sJ, w_sV, w_vI, w_vJ, w_vV, w_tI, w_mmax, w_mmin, w_mabs, w_lmax, w_acopy, gL, sL, kl_i, kl_l, kl_r, kl_s, kl_m, qI_i, qJ_l, qA_r, qA_s, pI_i, pJ_l, pA_r, pS_s, pM_m, pV_v, c1_i, c1_r, c1_s, c1_m, cS_0, cS_i, cS_l, cS_r, cS_s, cS_m, pN, z_rc_r, zE1, zE2, zE3, true_and, and_true, Nat.zero_add, Nat.reduceAdd, Nat.reduceLeDiff, true_or, or_true, Int.reduceLE, Int.reduceLT, zcmp_l, zcmp_g, zcmp_e, zcmp_le, mo, mf0, mz0, mf1, mz1, mf2, mz2, mf6, mz6, mf10, mz10, mf11, mz11, mf12, mz12, mf13, mz13, mf14, mz14, mf16, mz16, mf17, mz17, mf18, mz18, mf19, mz19, mi3, mi7, mi8, mi9, mi15, mi4, mi5, mi20, ma125, mn125, ma126, mn126, ma127, mn127, ma128, mn128, ma129, mn129, ma130, mn130, ma131, mn131, ma132, mn132, ma133, mn133, ma134, mn134, ma135, mn135, ma136, mn136, ma137, mn137]
  exact loop _ 0 1 rfl (by omega) (by omega) (Or.inr ⟨rfl, wAl_0⟩)
theorem m_shy {n x y k : Int} {s : Mem} (hW : WS n s) (hn : n < 1000000) : mOK miX6_shy [zr 124, zi x, zi y, zi k] s (r_shy s x y k) := by
  intro D P hM hP
  have w := hW.1.1
  have h := hM.1
  unfold r_shy at hP
  have bad : ¬ (zTwo s x y ∧ -1 ≤ k) → zC miX6_bad [zr 124, zi (-10)] D P := by
    intro q
    rw [cIf_f q] at hP
    exact m_bad hM hW hn hP
  refine e_X6_shy ?_
  simp only [tX6_shy_0, w_ic, w_lc, w_lds, w_ild, w_lld, w_ald, w_ist, w_lst, w_ast, w_iinc, w_iadd, w_isub, w_imul, w_idiv, w_irem, w_iand, w_ior, w_ixor, w_ishl, w_ishr, w_iushr, w_ineg, w_ladd, w_lsub, w_lmul, w_ldiv, w_lrem, w_lcmp, w_i2l, w_l2i, w_dup, w_pop, w_dup2, w_ieq, w_zeq, w_ine, w_zne, w_ilt, w_zlt, w_ige, w_zge, w_igt, w_zgt, w_ile, w_zle, w_cut, w_tsw, zsw, w_iret, w_zret, w_lret, w_vret, w_nret, w_getI, w_getJ, w_getR, w_putI, w_putZ, w_putJ, w_iald, w_zald, w_iast, w_zast, w_alen, w_sI, w_sJ, w_sV, w_vI, w_vJ, w_vV, w_tI, w_mmax, w_mmin, w_mabs, w_lmax, w_acopy, gL, sL, kl_i, kl_l, kl_r, kl_s, kl_m, qI_i, qJ_l, qA_r, qA_s, pI_i, pJ_l, pA_r, pS_s, pM_m, pV_v, c1_i, c1_r, c1_s, c1_m, cS_0, cS_i, cS_l, cS_r, cS_s, cS_m, pN, z_rc_r, zE1, zE2, zE3, true_and, and_true, Nat.zero_add, Nat.reduceAdd, Nat.reduceLeDiff, true_or, or_true, Int.reduceLE, Int.reduceLT, zcmp_l, zcmp_g, zcmp_e, zcmp_le, mo, mf0, mz0, mf1, mz1, mf2, mz2, mf6, mz6, mf10, mz10, mf11, mz11, mf12, mz12, mf13, mz13, mf14, mz14, mf16, mz16, mf17, mz17, mf18, mz18, mf19, mz19, mi3, mi7, mi8, mi9, mi15, mi4, mi5, mi20, ma125, mn125, ma126, mn126, ma127, mn127, ma128, mn128, ma129, mn129, ma130, mn130, ma131, mn131, ma132, mn132, ma133, mn133, ma134, mn134, ma135, mn135, ma136, mn136, ma137, mn137]
  refine m_isGoer h w.n1 (fun q => ⟨fun w => absurd w (by decide), fun _ => ?_⟩) (fun q => ⟨fun _ => bad fun w => q w.1.2.1, fun w => absurd rfl w⟩)
  refine m_isGoer h w.n1 (fun q2 => ⟨fun w => absurd w (by decide), fun _ => ⟨fun q3 => bad fun w => w.1.1 q3, fun q3 => ⟨fun q4 => ?_, fun q4 => bad fun w => by omega⟩⟩⟩) (fun q2 => ⟨fun _ => bad fun w => q2 w.1.2.2, fun w => absurd rfl w⟩)
  rw [cIf_t ⟨⟨q3, q, q2⟩, by omega⟩] at hP
  refine m_laysTwo hM hW q q2 fun D1 f h1 h2 => ?_
  have hP2 := fun (v : Int) (e : cIf (zFst (fun t => sRs (s 0) x y t ∧ sRn (s 0) x y t.toNat = k) 100 = -1) (cIf (k = -1) (sRn (s 0) x y 100, s) (-5, s)) (zFst (fun t => sRs (s 0) x y t ∧ sRn (s 0) x y t.toNat = k) 100, s) = (v, s)) => by
    have := hP D1 f.fr
    rw [e] at this
    exact this (hM.s f)
  have loop : ∀ (r : Nat) (t : Int), (100 - t).toNat = r → 0 ≤ t → t ≤ 100 → (∀ u, 0 ≤ u → u < t → ¬ (sRs (s 0) x y u ∧ sRn (s 0) x y u.toNat = k)) → zW miX6_shy P 45 [zr 124, zi x, zi y, zi k, zi (sRn (s 0) x y t.toNat), zi t] D1 := by
    intro r
    induction r with
    | zero =>
      intro t hr t0 t1 hu
      have e : zFst (fun t => sRs (s 0) x y t ∧ sRn (s 0) x y t.toNat = k) 100 = -1 := zFst_no fun u u0 u1 => hu u u0 (by omega)
      refine sX6_shy_45 _ _ _ _ _ ?_
      simp only [tX6_shy_45, w_ic, w_lc, w_lds, w_ild, w_lld, w_ald, w_ist, w_lst, w_ast, w_iinc, w_iadd, w_isub, w_imul, w_idiv, w_irem, w_iand, w_ior, w_ixor, w_ishl, w_ishr, w_iushr, w_ineg, w_ladd, w_lsub, w_lmul, w_ldiv, w_lrem, w_lcmp, w_i2l, w_l2i, w_dup, w_pop, w_dup2, w_ieq, w_zeq, w_ine, w_zne, w_ilt, w_zlt, w_ige, w_zge, w_igt, w_zgt, w_ile, w_zle, w_cut, w_tsw, zsw, w_iret, w_zret, w_lret, w_vret, w_nret, w_getI, w_getJ, w_getR, w_putI, w_putZ, w_putJ, w_iald, w_zald, w_iast, w_zast, w_alen, w_sI, w_sJ, w_sV, w_vI, w_vJ, w_vV, w_tI, w_mmax, w_mmin, w_mabs, w_lmax, w_acopy, gL, sL, kl_i, kl_l, kl_r, kl_s, kl_m, qI_i, qJ_l, qA_r, qA_s, pI_i, pJ_l, pA_r, pS_s, pM_m, pV_v, c1_i, c1_r, c1_s, c1_m, cS_0, cS_i, cS_l, cS_r, cS_s, cS_m, pN, z_rc_r, zE1, zE2, zE3, true_and, and_true, Nat.zero_add, Nat.reduceAdd, Nat.reduceLeDiff, true_or, or_true, Int.reduceLE, Int.reduceLT, zcmp_l, zcmp_g, zcmp_e, zcmp_le, mo, mf0, mz0, mf1, mz1, mf2, mz2, mf6, mz6, mf10, mz10, mf11, mz11, mf12, mz12, mf13, mz13, mf14, mz14, mf16, mz16, mf17, mz17, mf18, mz18, mf19, mz19, mi3, mi7, mi8, mi9, mi15, mi4, mi5, mi20, ma125, mn125, ma126, mn126, ma127, mn127, ma128, mn128, ma129, mn129, ma130, mn130, ma131, mn131, ma132, mn132, ma133, mn133, ma134, mn134, ma135, mn135, ma136, mn136, ma137, mn137]
      refine ⟨fun _ => ⟨fun q => ?_, fun q => ?_⟩, fun q => absurd (by omega) q⟩
      · exact hP2 _ (by rw [cIf_t e, cIf_f q])
      · rw [show t = 100 by omega]
        exact hP2 _ (by rw [cIf_t e, cIf_t (Decidable.not_not.mp q)]; rfl)
    | succ r ih =>
      intro t hr t0 t1 hu
      have nx := ih (t + 1) (by omega) (by omega) (by omega)
      have hz : 0 ≤ sRn (s 0) x y t.toNat ∧ sRn (s 0) x y t.toNat ≤ (t.toNat : Int) * 1 := zsum_b _ (fun k _ _ => by
        by_cases q : sRs (s 0) x y k
        · rw [cIf_t q]; omega
        · rw [cIf_f q]; omega)
      have es : sRn (s 0) x y (t + 1).toNat = sRn (s 0) x y t.toNat + cIf (sRs (s 0) x y t) 1 0 := zsum_s t0
      rw [es] at nx
      refine sX6_shy_45 _ _ _ _ _ ?_
      simp only [tX6_shy_45, w_ic, w_lc, w_lds, w_ild, w_lld, w_ald, w_ist, w_lst, w_ast, w_iinc, w_iadd, w_isub, w_imul, w_idiv, w_irem, w_iand, w_ior, w_ixor, w_ishl, w_ishr, w_iushr, w_ineg, w_ladd, w_lsub, w_lmul, w_ldiv, w_lrem, w_lcmp, w_i2l, w_l2i, w_dup, w_pop, w_dup2, w_ieq, w_zeq, w_ine, w_zne, w_ilt, w_zlt, w_ige, w_zge, w_igt, w_zgt, w_ile, w_zle, w_cut, w_tsw, zsw, w_iret, w_zret, w_lret, w_vret, w_nret, w_getI, w_getJ, w_getR, w_putI, w_putZ, w_putJ, w_iald, w_zald, w_iast, w_zast, w_alen, w_sI, w_sJ, w_sV, w_vI, w_vJ, w_vV, w_tI, w_mmax, w_mmin, w_mabs, w_lmax, w_acopy, gL, sL, kl_i, kl_l, kl_r, kl_s, kl_m, qI_i, qJ_l, qA_r, qA_s, pI_i, pJ_l, pA_r, pS_s, pM_m, pV_v, c1_i, c1_r, c1_s, c1_m, cS_0, cS_i, cS_l, cS_r, cS_s, cS_m, pN, z_rc_r, zE1, zE2, zE3, true_and, and_true, Nat.zero_add, Nat.reduceAdd, Nat.reduceLeDiff, true_or, or_true, Int.reduceLE, Int.reduceLT, zcmp_l, zcmp_g, zcmp_e, zcmp_le, mo, mf0, mz0, mf1, mz1, mf2, mz2, mf6, mz6, mf10, mz10, mf11, mz11, mf12, mz12, mf13, mz13, mf14, mz14, mf16, mz16, mf17, mz17, mf18, mz18, mf19, mz19, mi3, mi7, mi8, mi9, mi15, mi4, mi5, mi20, ma125, mn125, ma126, mn126, ma127, mn127, ma128, mn128, ma129, mn129, ma130, mn130, ma131, mn131, ma132, mn132, ma133, mn133, ma134, mn134, ma135, mn135, ma136, mn136, ma137, mn137]
      refine ⟨fun q => absurd q (by omega), fun _ => ⟨by omega, by omega, ?_⟩⟩
      have step : ¬ (sRs (s 0) x y t ∧ sRn (s 0) x y t.toNat = k) → ∀ u, 0 ≤ u → u < t + 1 → ¬ (sRs (s 0) x y u ∧ sRn (s 0) x y u.toNat = k) := fun q u u0 u1 => by
        by_cases e : u = t
        · rw [e]; exact q
        · exact hu u u0 (by omega)
      refine m_rests h1 h2 t0 (by omega) (fun h3 => ⟨fun w => absurd w (by decide), fun _ => ⟨fun q => ⟨⟨by omega, by omega⟩, ⟨by omega, by omega⟩, ?_⟩, fun q => ?_⟩⟩) (fun h3 => ⟨fun _ => ⟨⟨by omega, by omega⟩, ?_⟩, fun w => absurd rfl w⟩)
      · rw [cIf_t h3] at nx
        exact nx (step fun w => q w.2)
      · have hq := Decidable.not_not.mp q
        have e : zFst (fun t => sRs (s 0) x y t ∧ sRn (s 0) x y t.toNat = k) 100 = t := zFst_of (p := fun t => sRs (s 0) x y t ∧ sRn (s 0) x y t.toNat = k) t0 ⟨h3, hq⟩ hu (by omega)
        exact hP2 t (by rw [cIf_f (by omega), e])
      · rw [cIf_f h3, Int.add_zero] at nx
        exact nx (step fun w => h3 w.1)
  exact loop _ 0 rfl (by omega) (by omega) (fun u u0 u1 => by omega)
theorem sNg_n {x : Int} {a : Int → Int} (hx : 0 ≤ x ∧ x < 2147483648) (h : WA 9999 a) {j : Int} (hj : j = 1 ∨ j = 2) : ∀ n : Nat, (sNg x a n).2.1 j = a j
  | 0 => rfl
  | n + 1 => by
    have ih := sNg_n hx h hj n
    have ih1 := sNg_n hx h (j := 1) (Or.inl rfl) n
    have b := (sNg_b hx h n).2.1
    have b2 := nA_wa b (nX (sNg x a n).1)
    have n1 := b2.n1
    have t := nT_b (nX (sNg x a n).1)
    show sPass (nA (sNg x a n).2.1 (nX (sNg x a n).1)) j = a j
    rw [sPass_n (by omega) n1.2 (by omega), ← ih]
    unfold nA
    split
    · rw [zA_n (by omega)]
    · rfl
theorem sHr_sum {a : Int → Int} {k : Int} {n : Nat} (hn : n ≤ 6) : zsum 6 (zbt (zbits n (sHr a k))) = zsum n (fun i => sHr a k i) := by
  rw [zsum_bits hn]
  refine zsum_eq n fun i _ _ => ?_
  rcases sHr_1 (a := a) (k := k) (i := i) with e | e
  · rw [e]; rfl
  · rw [e]; rfl
theorem m_nights {n x c : Int} {s : Mem} (hW : WS n s) (hn : n < 1000000) : mOK miX6_nights [zr 124, zi x, zi c] s (r_nights s x c) := by
  intro D P hM hP
  have w := hW.1.1
  have h := hM.1
  have n1 := w.n1
  have n2 := w.n2
  unfold r_nights at hP
  have bad : ¬ ((0 ≤ x ∧ x ≤ 999999) ∧ 0 ≤ c ∧ c ≤ 60) → zC miX6_bad [zr 124, zi (-2)] D P := by
    intro q
    rw [cIf_f q] at hP
    exact m_bad hM hW hn hP
  refine e_X6_nights ?_
  simp only [tX6_nights_0, w_ic, w_lc, w_lds, w_ild, w_lld, w_ald, w_ist, w_lst, w_ast, w_iinc, w_iadd, w_isub, w_imul, w_idiv, w_irem, w_iand, w_ior, w_ixor, w_ishl, w_ishr, w_iushr, w_ineg, w_ladd, w_lsub, w_lmul, w_ldiv, w_lrem, w_lcmp, w_i2l, w_l2i, w_dup, w_pop, w_dup2, w_ieq, w_zeq, w_ine, w_zne, w_ilt, w_zlt, w_ige, w_zge, w_igt, w_zgt, w_ile, w_zle, w_cut, w_tsw, zsw, w_iret, w_zret, w_lret, w_vret, w_nret, w_getI, w_getJ, w_getR, w_putI, w_putZ, w_putJ, w_iald, w_zald, w_iast, w_zast, w_alen, w_sI, w_sJ, w_sV, w_vI, w_vJ, w_vV, w_tI, w_mmax, w_mmin, w_mabs, w_lmax, w_acopy, gL, sL, kl_i, kl_l, kl_r, kl_s, kl_m, qI_i, qJ_l, qA_r, qA_s, pI_i, pJ_l, pA_r, pS_s, pM_m, pV_v, c1_i, c1_r, c1_s, c1_m, cS_0, cS_i, cS_l, cS_r, cS_s, cS_m, pN, z_rc_r, zE1, zE2, zE3, true_and, and_true, Nat.zero_add, Nat.reduceAdd, Nat.reduceLeDiff, true_or, or_true, Int.reduceLE, Int.reduceLT, zcmp_l, zcmp_g, zcmp_e, zcmp_le, mo, mf0, mz0, mf1, mz1, mf2, mz2, mf6, mz6, mf10, mz10, mf11, mz11, mf12, mz12, mf13, mz13, mf14, mz14, mf16, mz16, mf17, mz17, mf18, mz18, mf19, mz19, mi3, mi7, mi8, mi9, mi15, mi4, mi5, mi20, ma125, mn125, ma126, mn126, ma127, mn127, ma128, mn128, ma129, mn129, ma130, mn130, ma131, mn131, ma132, mn132, ma133, mn133, ma134, mn134, ma135, mn135, ma136, mn136, ma137, mn137]
  refine m_in (fun q => ⟨fun w => absurd w (by decide), fun _ => ?_⟩) (fun q => ⟨fun _ => bad fun w => q w.1, fun w => absurd rfl w⟩)
  refine m_in (fun q2 => ⟨fun _ => ?_, fun w => absurd (by decide) w⟩) (fun q2 => ⟨fun w => absurd rfl w, fun _ => bad fun w => q2 w.2⟩)
  rw [cIf_t ⟨q, q2⟩] at hP
  have hx : 0 ≤ x ∧ x < 2147483648 := by omega
  have loop : ∀ (r m : Nat) (v7 v8 : AV) (D1 : Mem), c.toNat - m = r → m ≤ c.toNat → yF D D1 → yQ D1 1092 (sNg x (s 0) m).2.1 → zW miX6_nights P 44 [zr 124, zi x, zi c, zl (sNg x (s 0) m).1, zm 1, zi (sNg x (s 0) m).2.2, zi m, v7, v8] D1 := by
    intro r
    induction r with
    | zero =>
      intro m v7 v8 D1 hr hm hf hq
      have e : m = c.toNat := by omega
      have fin := hP D1 hf.fr (hM.s hf)
      rw [e]
      refine sX6_nights_44 _ _ _ _ _ ?_
      simp only [tX6_nights_44, w_ic, w_lc, w_lds, w_ild, w_lld, w_ald, w_ist, w_lst, w_ast, w_iinc, w_iadd, w_isub, w_imul, w_idiv, w_irem, w_iand, w_ior, w_ixor, w_ishl, w_ishr, w_iushr, w_ineg, w_ladd, w_lsub, w_lmul, w_ldiv, w_lrem, w_lcmp, w_i2l, w_l2i, w_dup, w_pop, w_dup2, w_ieq, w_zeq, w_ine, w_zne, w_ilt, w_zlt, w_ige, w_zge, w_igt, w_zgt, w_ile, w_zle, w_cut, w_tsw, zsw, w_iret, w_zret, w_lret, w_vret, w_nret, w_getI, w_getJ, w_getR, w_putI, w_putZ, w_putJ, w_iald, w_zald, w_iast, w_zast, w_alen, w_sI, w_sJ, w_sV, w_vI, w_vJ, w_vV, w_tI, w_mmax, w_mmin, w_mabs, w_lmax, w_acopy, gL, sL, kl_i, kl_l, kl_r, kl_s, kl_m, qI_i, qJ_l, qA_r, qA_s, pI_i, pJ_l, pA_r, pS_s, pM_m, pV_v, c1_i, c1_r, c1_s, c1_m, cS_0, cS_i, cS_l, cS_r, cS_s, cS_m, pN, z_rc_r, zE1, zE2, zE3, true_and, and_true, Nat.zero_add, Nat.reduceAdd, Nat.reduceLeDiff, true_or, or_true, Int.reduceLE, Int.reduceLT, zcmp_l, zcmp_g, zcmp_e, zcmp_le, mo, mf0, mz0, mf1, mz1, mf2, mz2, mf6, mz6, mf10, mz10, mf11, mz11, mf12, mz12, mf13, mz13, mf14, mz14, mf16, mz16, mf17, mz17, mf18, mz18, mf19, mz19, mi3, mi7, mi8, mi9, mi15, mi4, mi5, mi20, ma125, mn125, ma126, mn126, ma127, mn127, ma128, mn128, ma129, mn129, ma130, mn130, ma131, mn131, ma132, mn132, ma133, mn133, ma134, mn134, ma135, mn135, ma136, mn136, ma137, mn137]
      exact ⟨fun _ => fin, fun w => absurd (by omega) w⟩
    | succ r ih =>
      intro m v7 v8 D1 hr hm hf hq
      have b := sNg_b hx w m
      have h1 := (hM.s hf).1
      obtain ⟨z1, z2⟩ := nX_z b.1
      have t := nT_b (nX (sNg x (s 0) m).1)
      have wA := nA_wa b.2.1 (nX (sNg x (s 0) m).1)
      have e1 := sNg_n hx w (j := 1) (Or.inl rfl) m
      have e2 := sNg_n hx w (j := 2) (Or.inr rfl) m
      have hx0 : 0 ≤ nX (sNg x (s 0) m).1 ∧ nX (sNg x (s 0) m).1 < 2147483648 := by unfold nX; omega
      have hb3 := b.2.2
      have eS : sHA (nA (sNg x (s 0) m).2.1 (nX (sNg x (s 0) m).1)) = zsum (s 0 2).toNat (fun k => zsum (s 0 1).toNat (fun i => sHr (nA (sNg x (s 0) m).2.1 (nX (sNg x (s 0) m).1)) k i)) := by
        have f1 : nA (sNg x (s 0) m).2.1 (nX (sNg x (s 0) m).1) 1 = s 0 1 := by
          unfold nA
          split
          · rw [zA_n (by omega), e1]
          · exact e1
        have f2 : nA (sNg x (s 0) m).2.1 (nX (sNg x (s 0) m).1) 2 = s 0 2 := by
          unfold nA
          split
          · rw [zA_n (by omega), e2]
          · exact e2
        unfold sHA
        rw [f1, f2, zsum_swap]
      have f1 : nA (sNg x (s 0) m).2.1 (nX (sNg x (s 0) m).1) 1 = s 0 1 := by
        unfold nA
        split
        · rw [zA_n (by omega), e1]
        · exact e1
      have f2 : nA (sNg x (s 0) m).2.1 (nX (sNg x (s 0) m).1) 2 = s 0 2 := by
        unfold nA
        split
        · rw [zA_n (by omega), e2]
        · exact e2
      have inner : ∀ (rr : Nat) (k v7 : Int) (D2 : Mem), (s 0 2 - k).toNat = rr → 0 ≤ k → k ≤ s 0 2 → yF D D2 → yQ D2 1092 (nA (sNg x (s 0) m).2.1 (nX (sNg x (s 0) m).1)) → zW miX6_nights P 114 [zr 124, zi x, zi c, zl (nX (sNg x (s 0) m).1), zm 1, zi ((sNg x (s 0) m).2.2 + zsum k.toNat (fun k => zsum (s 0 1).toNat (fun i => sHr (nA (sNg x (s 0) m).2.1 (nX (sNg x (s 0) m).1)) k i))), zi m, zi v7, zi k] D2 := by
        intro rr
        induction rr with
        | zero =>
          intro k v7 D2 hrr k0 k1 hf2 hq2
          have h2 := (hM.s hf2).1
          refine sX6_nights_114 _ _ _ _ _ ?_
          simp only [tX6_nights_114, w_ic, w_lc, w_lds, w_ild, w_lld, w_ald, w_ist, w_lst, w_ast, w_iinc, w_iadd, w_isub, w_imul, w_idiv, w_irem, w_iand, w_ior, w_ixor, w_ishl, w_ishr, w_iushr, w_ineg, w_ladd, w_lsub, w_lmul, w_ldiv, w_lrem, w_lcmp, w_i2l, w_l2i, w_dup, w_pop, w_dup2, w_ieq, w_zeq, w_ine, w_zne, w_ilt, w_zlt, w_ige, w_zge, w_igt, w_zgt, w_ile, w_zle, w_cut, w_tsw, zsw, w_iret, w_zret, w_lret, w_vret, w_nret, w_getI, w_getJ, w_getR, w_putI, w_putZ, w_putJ, w_iald, w_zald, w_iast, w_zast, w_alen, w_sI, w_sJ, w_sV, w_vI, w_vJ, w_vV, w_tI, w_mmax, w_mmin, w_mabs, w_lmax, w_acopy, gL, sL, kl_i, kl_l, kl_r, kl_s, kl_m, qI_i, qJ_l, qA_r, qA_s, pI_i, pJ_l, pA_r, pS_s, pM_m, pV_v, c1_i, c1_r, c1_s, c1_m, cS_0, cS_i, cS_l, cS_r, cS_s, cS_m, pN, z_rc_r, zE1, zE2, zE3, true_and, and_true, Nat.zero_add, Nat.reduceAdd, Nat.reduceLeDiff, true_or, or_true, Int.reduceLE, Int.reduceLT, zcmp_l, zcmp_g, zcmp_e, zcmp_le, mo, mf0, mz0, mf1, mz1, mf2, mz2, mf6, mz6, mf10, mz10, mf11, mz11, mf12, mz12, mf13, mz13, mf14, mz14, mf16, mz16, mf17, mz17, mf18, mz18, mf19, mz19, mi3, mi7, mi8, mi9, mi15, mi4, mi5, mi20, ma125, mn125, ma126, mn126, ma127, mn127, ma128, mn128, ma129, mn129, ma130, mn130, ma131, mn131, ma132, mn132, ma133, mn133, ma134, mn134, ma135, mn135, ma136, mn136, ma137, mn137]
          rw [h2.z (by omega) (by omega)]
          refine ⟨fun _ => ?_, fun w => absurd (by omega) w⟩
          refine m_passT hq2 wA (by omega) fun D3 hf3 _ hq3 => ⟨⟨by omega, by omega⟩, ?_⟩
          have nx := ih (m + 1) (zi v7) (zi k) D3 (by omega) (by omega) (hf2.trans hf3) hq3
          have eN : (sNg x (s 0) (m + 1)).2.2 = (sNg x (s 0) m).2.2 + zsum k.toNat (fun k => zsum (s 0 1).toNat (fun i => sHr (nA (sNg x (s 0) m).2.1 (nX (sNg x (s 0) m).1)) k i)) := by
            rw [show k = s 0 2 by omega, ← eS]
            rfl
          rw [eN] at nx
          exact nx
        | succ rr ihr =>
          intro k v7 D2 hrr k0 k1 hf2 hq2
          have h2 := (hM.s hf2).1
          have zk : ∀ (k : Int), 0 ≤ zsum (s 0 1).toNat (fun i => sHr (nA (sNg x (s 0) m).2.1 (nX (sNg x (s 0) m).1)) k i) ∧ zsum (s 0 1).toNat (fun i => sHr (nA (sNg x (s 0) m).2.1 (nX (sNg x (s 0) m).1)) k i) ≤ ((s 0 1).toNat : Int) * 1 := fun k => zsum_b _ (fun i _ _ => by rcases sHr_1 (a := nA (sNg x (s 0) m).2.1 (nX (sNg x (s 0) m).1)) (k := k) (i := i) with q | q <;> rw [q] <;> omega)
          have zb := zsum_b (f := fun k => zsum (s 0 1).toNat (fun i => sHr (nA (sNg x (s 0) m).2.1 (nX (sNg x (s 0) m).1)) k i)) (m := 6) k.toNat (fun k _ _ => by have := zk k; omega)
          have zb2 := zk k
          have nx := fun D3 g1 g2 => ihr (k + 1) v7 D3 (by omega) (by omega) (by omega) g1 g2
          rw [zsum_s k0] at nx
          refine sX6_nights_114 _ _ _ _ _ ?_
          simp only [tX6_nights_114, w_ic, w_lc, w_lds, w_ild, w_lld, w_ald, w_ist, w_lst, w_ast, w_iinc, w_iadd, w_isub, w_imul, w_idiv, w_irem, w_iand, w_ior, w_ixor, w_ishl, w_ishr, w_iushr, w_ineg, w_ladd, w_lsub, w_lmul, w_ldiv, w_lrem, w_lcmp, w_i2l, w_l2i, w_dup, w_pop, w_dup2, w_ieq, w_zeq, w_ine, w_zne, w_ilt, w_zlt, w_ige, w_zge, w_igt, w_zgt, w_ile, w_zle, w_cut, w_tsw, zsw, w_iret, w_zret, w_lret, w_vret, w_nret, w_getI, w_getJ, w_getR, w_putI, w_putZ, w_putJ, w_iald, w_zald, w_iast, w_zast, w_alen, w_sI, w_sJ, w_sV, w_vI, w_vJ, w_vV, w_tI, w_mmax, w_mmin, w_mabs, w_lmax, w_acopy, gL, sL, kl_i, kl_l, kl_r, kl_s, kl_m, qI_i, qJ_l, qA_r, qA_s, pI_i, pJ_l, pA_r, pS_s, pM_m, pV_v, c1_i, c1_r, c1_s, c1_m, cS_0, cS_i, cS_l, cS_r, cS_s, cS_m, pN, z_rc_r, zE1, zE2, zE3, true_and, and_true, Nat.zero_add, Nat.reduceAdd, Nat.reduceLeDiff, true_or, or_true, Int.reduceLE, Int.reduceLT, zcmp_l, zcmp_g, zcmp_e, zcmp_le, mo, mf0, mz0, mf1, mz1, mf2, mz2, mf6, mz6, mf10, mz10, mf11, mz11, mf12, mz12, mf13, mz13, mf14, mz14, mf16, mz16, mf17, mz17, mf18, mz18, mf19, mz19, mi3, mi7, mi8, mi9, mi15, mi4, mi5, mi20, ma125, mn125, ma126, mn126, ma127, mn127, ma128, mn128, ma129, mn129, ma130, mn130, ma131, mn131, ma132, mn132, ma133, mn133, ma134, mn134, ma135, mn135, ma136, mn136, ma137, mn137]
          rw [h2.z (by omega) (by omega)]
          refine ⟨fun w => absurd w (by omega), fun _ => ?_⟩
          refine m_heardBy (Or.inr (Or.inr rfl)) hq2 wA k0 (by omega) fun D3 hf3 => ?_
          have zz := zbits_b (f := sHr (nA (sNg x (s 0) m).2.1 (nX (sNg x (s 0) m).1)) k) (nA (sNg x (s 0) m).2.1 (nX (sNg x (s 0) m).1) 1).toNat
          have hlt : (2 : Int) ^ (nA (sNg x (s 0) m).2.1 (nX (sNg x (s 0) m).1) 1).toNat < 1048576 := (by decide : ∀ n : Nat, n < 7 → (2 : Int) ^ n < 1048576) _ (by omega)
          refine m_ones zz.1 (by omega) ?_
          rw [sHr_sum (by omega), f1]
          have := nx D3 (hf2.trans hf3.s) (hf3.q hq2)
          rw [← Int.add_assoc] at this
          exact ⟨⟨by omega, by omega⟩, ⟨by omega, by omega⟩, this⟩
      refine sX6_nights_44 _ _ _ _ _ ?_
      simp only [tX6_nights_44, w_ic, w_lc, w_lds, w_ild, w_lld, w_ald, w_ist, w_lst, w_ast, w_iinc, w_iadd, w_isub, w_imul, w_idiv, w_irem, w_iand, w_ior, w_ixor, w_ishl, w_ishr, w_iushr, w_ineg, w_ladd, w_lsub, w_lmul, w_ldiv, w_lrem, w_lcmp, w_i2l, w_l2i, w_dup, w_pop, w_dup2, w_ieq, w_zeq, w_ine, w_zne, w_ilt, w_zlt, w_ige, w_zge, w_igt, w_zgt, w_ile, w_zle, w_cut, w_tsw, zsw, w_iret, w_zret, w_lret, w_vret, w_nret, w_getI, w_getJ, w_getR, w_putI, w_putZ, w_putJ, w_iald, w_zald, w_iast, w_zast, w_alen, w_sI, w_sJ, w_sV, w_vI, w_vJ, w_vV, w_tI, w_mmax, w_mmin, w_mabs, w_lmax, w_acopy, gL, sL, kl_i, kl_l, kl_r, kl_s, kl_m, qI_i, qJ_l, qA_r, qA_s, pI_i, pJ_l, pA_r, pS_s, pM_m, pV_v, c1_i, c1_r, c1_s, c1_m, cS_0, cS_i, cS_l, cS_r, cS_s, cS_m, pN, z_rc_r, zE1, zE2, zE3, true_and, and_true, Nat.zero_add, Nat.reduceAdd, Nat.reduceLeDiff, true_or, or_true, Int.reduceLE, Int.reduceLT, zcmp_l, zcmp_g, zcmp_e, zcmp_le, mo, mf0, mz0, mf1, mz1, mf2, mz2, mf6, mz6, mf10, mz10, mf11, mz11, mf12, mz12, mf13, mz13, mf14, mz14, mf16, mz16, mf17, mz17, mf18, mz18, mf19, mz19, mi3, mi7, mi8, mi9, mi15, mi4, mi5, mi20, ma125, mn125, ma126, mn126, ma127, mn127, ma128, mn128, ma129, mn129, ma130, mn130, ma131, mn131, ma132, mn132, ma133, mn133, ma134, mn134, ma135, mn135, ma136, mn136, ma137, mn137]
      rw [z1]
      refine ⟨fun w => absurd w (by omega), fun _ => ?_⟩
      rw [h1.z (by omega) (by omega)]
      have eT : nX (sNg x (s 0) m).1 / 65536 % 6 = nT (nX (sNg x (s 0) m).1) := rfl
      rw [eT]
      repeat' (with_reducible apply And.intro)
      all_goals first | omega | exact ⟨by omega, by omega⟩ | skip
      · intro q3
        have eA : nA (sNg x (s 0) m).2.1 (nX (sNg x (s 0) m).1) = (sNg x (s 0) m).2.1 := by
          unfold nA
          rw [if_neg (by omega)]
        have := inner _ 0 (nT (nX (sNg x (s 0) m).1)) D1 rfl (by omega) n2.1 hf (by rw [eA]; exact hq)
        rw [show ((sNg x (s 0) m).2.2 + zsum (Int.toNat 0) (fun k => zsum (s 0 1).toNat (fun i => sHr (nA (sNg x (s 0) m).2.1 (nX (sNg x (s 0) m).1)) k i))) = (sNg x (s 0) m).2.2 from Int.add_zero _] at this
        exact this
      · intro q3
        have eA : nA (sNg x (s 0) m).2.1 (nX (sNg x (s 0) m).1) = zA (sNg x (s 0) m).2.1 (40 + nT (nX (sNg x (s 0) m).1)) (1 - (sNg x (s 0) m).2.1 (40 + nT (nX (sNg x (s 0) m).1))) := by
          unfold nA
          rw [if_pos (by omega)]
        have hv := hq (40 + nT (nX (sNg x (s 0) m).1)) (by omega) (by omega)
        rw [show 1132 + nT (nX (sNg x (s 0) m).1) = 1092 + (40 + nT (nX (sNg x (s 0) m).1)) by omega, hv]
        have hb := (b.2.1.w1.2 (nT (nX (sNg x (s 0) m).1)) t.1 (by omega)).2.2.2.2
        have bb : 0 ≤ (sNg x (s 0) m).2.1 (40 + nT (nX (sNg x (s 0) m).1)) ∧ (sNg x (s 0) m).2.1 (40 + nT (nX (sNg x (s 0) m).1)) ≤ 1 := by rcases hb with e | e <;> rw [e] <;> decide
        have := inner _ 0 (nT (nX (sNg x (s 0) m).1)) (zU D1 125 (1092 + (40 + nT (nX (sNg x (s 0) m).1))) (1 - (sNg x (s 0) m).2.1 (40 + nT (nX (sNg x (s 0) m).1)))) rfl (by omega) n2.1 (hf.trans (yF.u5 (by omega))) (by rw [eA]; exact hq.up rfl)
        rw [show ((sNg x (s 0) m).2.2 + zsum (Int.toNat 0) (fun k => zsum (s 0 1).toNat (fun i => sHr (nA (sNg x (s 0) m).2.1 (nX (sNg x (s 0) m).1)) k i))) = (sNg x (s 0) m).2.2 from Int.add_zero _] at this
        repeat' (with_reducible apply And.intro)
        all_goals first | omega | exact ⟨by omega, by omega⟩ | skip
  exact m_tries h fun D' f g hq => loop _ 0 _ _ D' rfl (by omega) (yF.of5 f g) hq
theorem m_part {n x : Int} {s : Mem} (hW : WS n s) (hn : n < 1000000) : mOK miX6_part [zr 124, zi x] s (r_part s x) := by
  intro D P hM hP
  have hf := hM.2.2.2.2.2
  unfold r_part at hP
  refine e_X6_part ?_
  simp only [tX6_part_0, w_ic, w_lc, w_lds, w_ild, w_lld, w_ald, w_ist, w_lst, w_ast, w_iinc, w_iadd, w_isub, w_imul, w_idiv, w_irem, w_iand, w_ior, w_ixor, w_ishl, w_ishr, w_iushr, w_ineg, w_ladd, w_lsub, w_lmul, w_ldiv, w_lrem, w_lcmp, w_i2l, w_l2i, w_dup, w_pop, w_dup2, w_ieq, w_zeq, w_ine, w_zne, w_ilt, w_zlt, w_ige, w_zge, w_igt, w_zgt, w_ile, w_zle, w_cut, w_tsw, zsw, w_iret, w_zret, w_lret, w_vret, w_nret, w_getI, w_getJ, w_getR, w_putI, w_putZ, w_putJ, w_iald, w_zald, w_iast, w_zast, w_alen, w_sI, w_sJ, w_sV, w_vI, w_vJ, w_vV, w_tI, w_mmax, w_mmin, w_mabs, w_lmax, w_acopy, gL, sL, kl_i, kl_l, kl_r, kl_s, kl_m, qI_i, qJ_l, qA_r, qA_s, pI_i, pJ_l, pA_r, pS_s, pM_m, pV_v, c1_i, c1_r, c1_s, c1_m, cS_0, cS_i, cS_l, cS_r, cS_s, cS_m, pN, z_rc_r, zE1, zE2, zE3, true_and, and_true, Nat.zero_add, Nat.reduceAdd, Nat.reduceLeDiff, true_or, or_true, Int.reduceLE, Int.reduceLT, zcmp_l, zcmp_g, zcmp_e, zcmp_le, mo, mf0, mz0, mf1, mz1, mf2, mz2, mf6, mz6, mf10, mz10, mf11, mz11, mf12, mz12, mf13, mz13, mf14, mz14, mf16, mz16, mf17, mz17, mf18, mz18, mf19, mz19, mi3, mi7, mi8, mi9, mi15, mi4, mi5, mi20, ma125, mn125, ma126, mn126, ma127, mn127, ma128, mn128, ma129, mn129, ma130, mn130, ma131, mn131, ma132, mn132, ma133, mn133, ma134, mn134, ma135, mn135, ma136, mn136, ma137, mn137]
  refine ⟨fun q => ⟨fun q2 => ?_, fun q2 => ?_⟩, fun q => ?_⟩
  · rw [cIf_f q, cIf_f q2] at hP
    exact m_bad hM hW hn hP
  · rw [cIf_f q, cIf_t (Decidable.not_not.mp q2)] at hP
    rw [hf.2]
    exact hP D Fr.rfl hM
  · rw [cIf_t (Decidable.not_not.mp q)] at hP
    rw [hf.1]
    exact hP D Fr.rfl hM
theorem m_image {n x : Int} {s : Mem} (hW : WS n s) (hn : n < 1000000) : mOK miX6_image [zr 124, zi x] s (r_image s x) := by
  intro D P hM hP
  unfold r_image at hP
  obtain ⟨h1, ⟨h2, h3⟩, h5, h6, h9, h12⟩ := hM
  refine e_X6_image ?_
  simp only [tX6_image_0, w_ic, w_lc, w_lds, w_ild, w_lld, w_ald, w_ist, w_lst, w_ast, w_iinc, w_iadd, w_isub, w_imul, w_idiv, w_irem, w_iand, w_ior, w_ixor, w_ishl, w_ishr, w_iushr, w_ineg, w_ladd, w_lsub, w_lmul, w_ldiv, w_lrem, w_lcmp, w_i2l, w_l2i, w_dup, w_pop, w_dup2, w_ieq, w_zeq, w_ine, w_zne, w_ilt, w_zlt, w_ige, w_zge, w_igt, w_zgt, w_ile, w_zle, w_cut, w_tsw, zsw, w_iret, w_zret, w_lret, w_vret, w_nret, w_getI, w_getJ, w_getR, w_putI, w_putZ, w_putJ, w_iald, w_zald, w_iast, w_zast, w_alen, w_sI, w_sJ, w_sV, w_vI, w_vJ, w_vV, w_tI, w_mmax, w_mmin, w_mabs, w_lmax, w_acopy, gL, sL, kl_i, kl_l, kl_r, kl_s, kl_m, qI_i, qJ_l, qA_r, qA_s, pI_i, pJ_l, pA_r, pS_s, pM_m, pV_v, c1_i, c1_r, c1_s, c1_m, cS_0, cS_i, cS_l, cS_r, cS_s, cS_m, pN, z_rc_r, zE1, zE2, zE3, true_and, and_true, Nat.zero_add, Nat.reduceAdd, Nat.reduceLeDiff, true_or, or_true, Int.reduceLE, Int.reduceLT, zcmp_l, zcmp_g, zcmp_e, zcmp_le, mo, mf0, mz0, mf1, mz1, mf2, mz2, mf6, mz6, mf10, mz10, mf11, mz11, mf12, mz12, mf13, mz13, mf14, mz14, mf16, mz16, mf17, mz17, mf18, mz18, mf19, mz19, mi3, mi7, mi8, mi9, mi15, mi4, mi5, mi20, ma125, mn125, ma126, mn126, ma127, mn127, ma128, mn128, ma129, mn129, ma130, mn130, ma131, mn131, ma132, mn132, ma133, mn133, ma134, mn134, ma135, mn135, ma136, mn136, ma137, mn137]
  refine m_in (fun q => ⟨fun _ => ?_, fun w => absurd (by decide) w⟩) (fun q => ⟨fun w => absurd rfl w, fun _ => ?_⟩)
  · repeat' (with_reducible apply And.intro)
    all_goals first | omega | exact ⟨by omega, by omega⟩ | skip
    refine m_copy (by omega) (by omega) (by omega) h1 fun D' f hR => ?_
    repeat' (with_reducible apply And.intro)
    all_goals first | omega | exact ⟨by omega, by omega⟩ | skip
    have hx : ∀ o, o ≠ 125 → o ≠ 126 → zU D' 126 x 1 o = D o := fun o p q => by rw [zU_ne q]; exact f.1 o p
    have h5' : zU D' 126 x 1 125 = D' 125 := zU_ne (by decide)
    have fr : Fr 124 138 D (zU D' 126 x 1) := fun o p => hx o (by omega) (by omega)
    by_cases e : x = 0
    · rw [cIf_t e] at hP
      subst e
      refine hP _ fr (show yS _ (sU (sU s 1 (s 0)) 4 (zA (s 4) 1 1)) from ?_)
      refine ⟨fun j p q => ?_, ⟨fun j p q => ?_, fun j p q => ?_⟩, ?_⟩
      · rw [h5', f.2 _ (by omega), sU_n (by decide), sU_n (by decide)]; exact h1 j p q
      · rw [h5', sU_n (by decide), sU_s]; exact hR j p q
      · rw [h5', f.2 _ (by omega), sU_n (by decide), sU_n (by decide)]; exact h3 j p q
      · unfold yT
        rw [hx 124 (by decide) (by decide), hx 127 (by decide) (by decide), hx 128 (by decide) (by decide), sU_s, sU_n (by decide), sU_n (by decide), zA_s, zA_n (by decide), zA_n (by decide), zA_n (by decide), zA_n (by decide), zA_n (by decide), zA_n (by decide), zA_n (by decide)]
        exact ⟨h5, ⟨zU_s, by rw [zU_k (by decide), f.1 126 (by decide)]; exact h6.2⟩, h9, h12⟩
    · have e1 : x = 1 := by omega
      rw [cIf_f e, cIf_t e1] at hP
      subst e1
      refine hP _ fr (show yS _ (sU (sU s 2 (s 0)) 4 (zA (s 4) 2 1)) from ?_)
      refine ⟨fun j p q => ?_, ⟨fun j p q => ?_, fun j p q => ?_⟩, ?_⟩
      · rw [h5', f.2 _ (by omega), sU_n (by decide), sU_n (by decide)]; exact h1 j p q
      · rw [h5', f.2 _ (by omega), sU_n (by decide), sU_n (by decide)]; exact h2 j p q
      · rw [h5', sU_n (by decide), sU_s]; exact hR j p q
      · unfold yT
        rw [hx 124 (by decide) (by decide), hx 127 (by decide) (by decide), hx 128 (by decide) (by decide), sU_s, sU_n (by decide), sU_n (by decide), zA_s, zA_n (by decide), zA_n (by decide), zA_n (by decide), zA_n (by decide), zA_n (by decide), zA_n (by decide), zA_n (by decide)]
        exact ⟨h5, ⟨by rw [zU_k (by decide), f.1 126 (by decide)]; exact h6.1, zU_s⟩, h9, h12⟩
  · rw [cIf_f (by omega), cIf_f (by omega)] at hP
    exact m_bad ⟨h1, ⟨h2, h3⟩, h5, h6, h9, h12⟩ hW hn hP
theorem m_from {n x : Int} {s : Mem} (hW : WS n s) (hn : n < 1000000) : mOK miX6_from [zr 124, zi x] s (r_from s x) := by
  intro D P hM hP
  unfold r_from at hP
  have hk := hM.2.2.2.1
  refine e_X6_from ?_
  simp only [tX6_from_0, w_ic, w_lc, w_lds, w_ild, w_lld, w_ald, w_ist, w_lst, w_ast, w_iinc, w_iadd, w_isub, w_imul, w_idiv, w_irem, w_iand, w_ior, w_ixor, w_ishl, w_ishr, w_iushr, w_ineg, w_ladd, w_lsub, w_lmul, w_ldiv, w_lrem, w_lcmp, w_i2l, w_l2i, w_dup, w_pop, w_dup2, w_ieq, w_zeq, w_ine, w_zne, w_ilt, w_zlt, w_ige, w_zge, w_igt, w_zgt, w_ile, w_zle, w_cut, w_tsw, zsw, w_iret, w_zret, w_lret, w_vret, w_nret, w_getI, w_getJ, w_getR, w_putI, w_putZ, w_putJ, w_iald, w_zald, w_iast, w_zast, w_alen, w_sI, w_sJ, w_sV, w_vI, w_vJ, w_vV, w_tI, w_mmax, w_mmin, w_mabs, w_lmax, w_acopy, gL, sL, kl_i, kl_l, kl_r, kl_s, kl_m, qI_i, qJ_l, qA_r, qA_s, pI_i, pJ_l, pA_r, pS_s, pM_m, pV_v, c1_i, c1_r, c1_s, c1_m, cS_0, cS_i, cS_l, cS_r, cS_s, cS_m, pN, z_rc_r, zE1, zE2, zE3, true_and, and_true, Nat.zero_add, Nat.reduceAdd, Nat.reduceLeDiff, true_or, or_true, Int.reduceLE, Int.reduceLT, zcmp_l, zcmp_g, zcmp_e, zcmp_le, mo, mf0, mz0, mf1, mz1, mf2, mz2, mf6, mz6, mf10, mz10, mf11, mz11, mf12, mz12, mf13, mz13, mf14, mz14, mf16, mz16, mf17, mz17, mf18, mz18, mf19, mz19, mi3, mi7, mi8, mi9, mi15, mi4, mi5, mi20, ma125, mn125, ma126, mn126, ma127, mn127, ma128, mn128, ma129, mn129, ma130, mn130, ma131, mn131, ma132, mn132, ma133, mn133, ma134, mn134, ma135, mn135, ma136, mn136, ma137, mn137]
  refine m_in (fun q => ⟨fun _ => ?_, fun w => absurd (by decide) w⟩) (fun q => ⟨fun w => absurd rfl w, fun _ => ?_⟩)
  · by_cases e : x = 0
    · rw [cIf_t e] at hP
      subst e
      rw [hk.1]
      repeat' (with_reducible apply And.intro)
      all_goals first | omega | exact ⟨by omega, by omega⟩ | skip
      · intro g
        rw [cIf_f g] at hP
        repeat' (with_reducible apply And.intro)
        all_goals first | omega | exact ⟨by omega, by omega⟩ | skip
        refine m_copy (by omega) (by omega) (by omega) (r := 273 + 273 * 0) hM.2.1.1 fun D' f hR => ?_
        exact hP D' f.n.fr (hM.now f.n hR)
      · intro g
        rw [cIf_t (Decidable.not_not.mp g)] at hP
        exact m_no hM hW hn hP
    · have e1 : x = 1 := by omega
      rw [cIf_f e, cIf_t e1] at hP
      subst e1
      rw [hk.2]
      repeat' (with_reducible apply And.intro)
      all_goals first | omega | exact ⟨by omega, by omega⟩ | skip
      · intro g
        rw [cIf_f g] at hP
        repeat' (with_reducible apply And.intro)
        all_goals first | omega | exact ⟨by omega, by omega⟩ | skip
        refine m_copy (by omega) (by omega) (by omega) (r := 273 + 273 * 1) hM.2.1.2 fun D' f hR => ?_
        exact hP D' f.n.fr (hM.now f.n hR)
      · intro g
        rw [cIf_t (Decidable.not_not.mp g)] at hP
        exact m_no hM hW hn hP
  · rw [cIf_f (by omega), cIf_f (by omega)] at hP
    exact m_bad hM hW hn hP
theorem m_status {n x : Int} {s : Mem} (hW : WS n s) (hn : n < 1000000) : mOK miX6_status [zr 124, zi x] s (r_status s x) := by
  intro D P hM hP
  unfold r_status at hP
  have hf := hM.2.2.2.2.1
  refine e_X6_status ?_
  simp only [tX6_status_0, w_ic, w_lc, w_lds, w_ild, w_lld, w_ald, w_ist, w_lst, w_ast, w_iinc, w_iadd, w_isub, w_imul, w_idiv, w_irem, w_iand, w_ior, w_ixor, w_ishl, w_ishr, w_iushr, w_ineg, w_ladd, w_lsub, w_lmul, w_ldiv, w_lrem, w_lcmp, w_i2l, w_l2i, w_dup, w_pop, w_dup2, w_ieq, w_zeq, w_ine, w_zne, w_ilt, w_zlt, w_ige, w_zge, w_igt, w_zgt, w_ile, w_zle, w_cut, w_tsw, zsw, w_iret, w_zret, w_lret, w_vret, w_nret, w_getI, w_getJ, w_getR, w_putI, w_putZ, w_putJ, w_iald, w_zald, w_iast, w_zast, w_alen, w_sI, w_sJ, w_sV, w_vI, w_vJ, w_vV, w_tI, w_mmax, w_mmin, w_mabs, w_lmax, w_acopy, gL, sL, kl_i, kl_l, kl_r, kl_s, kl_m, qI_i, qJ_l, qA_r, qA_s, pI_i, pJ_l, pA_r, pS_s, pM_m, pV_v, c1_i, c1_r, c1_s, c1_m, cS_0, cS_i, cS_l, cS_r, cS_s, cS_m, pN, z_rc_r, zE1, zE2, zE3, true_and, and_true, Nat.zero_add, Nat.reduceAdd, Nat.reduceLeDiff, true_or, or_true, Int.reduceLE, Int.reduceLT, zcmp_l, zcmp_g, zcmp_e, zcmp_le, mo, mf0, mz0, mf1, mz1, mf2, mz2, mf6, mz6, mf10, mz10, mf11, mz11, mf12, mz12, mf13, mz13, mf14, mz14, mf16, mz16, mf17, mz17, mf18, mz18, mf19, mz19, mi3, mi7, mi8, mi9, mi15, mi4, mi5, mi20, ma125, mn125, ma126, mn126, ma127, mn127, ma128, mn128, ma129, mn129, ma130, mn130, ma131, mn131, ma132, mn132, ma133, mn133, ma134, mn134, ma135, mn135, ma136, mn136, ma137, mn137]
  refine m_in (fun q => ⟨fun w => absurd w (by decide), fun _ => ?_⟩) (fun q => ⟨fun _ => ?_, fun w => absurd rfl w⟩)
  · rw [cIf_t q] at hP
    have e : D 128 x = s 4 (3 + x) := by
      rcases (by omega : x = 0 ∨ x = 1 ∨ x = 2) with q | q | q <;> subst q
      · exact hf.1
      · exact hf.2.1
      · exact hf.2.2
    rw [e]
    exact ⟨q.1, by omega, hP D Fr.rfl hM⟩
  · rw [cIf_f q] at hP
    exact m_bad hM hW hn hP
theorem m_thereOnes {M : Int} {a : Int → Int} {D : Mem} {P : Int → Mem → Prop} (h : yR D 0 a) (hw : WA M a) (hP : P (sAr a) D) : zC miX6_thereOnes [zr 124] D P := by
  have n1 := hw.n1
  have loop : ∀ (m : Nat) (i : Int), (a 1 - i).toNat = m → 0 ≤ i → i ≤ a 1 → zW miX6_thereOnes P 4 [zr 124, zi (zsum i.toNat (fun i => if a (34 + i) = sGl a i then 1 else 0)), zi i] D := by
    intro m
    induction m with
    | zero =>
      intro i hm i0 i1
      have e : i = a 1 := by omega
      rw [e]
      refine sX6_thereOnes_4 _ _ _ _ _ ?_
      simp only [tX6_thereOnes_4, w_ic, w_lc, w_lds, w_ild, w_lld, w_ald, w_ist, w_lst, w_ast, w_iinc, w_iadd, w_isub, w_imul, w_idiv, w_irem, w_iand, w_ior, w_ixor, w_ishl, w_ishr, w_iushr, w_ineg, w_ladd, w_lsub, w_lmul, w_ldiv, w_lrem, w_lcmp, w_i2l, w_l2i, w_dup, w_pop, w_dup2, w_ieq, w_zeq, w_ine, w_zne, w_ilt, w_zlt, w_ige, w_zge, w_igt, w_zgt, w_ile, w_zle, w_cut, w_tsw, zsw, w_iret, w_zret, w_lret, w_vret, w_nret, w_getI, w_getJ, w_getR, w_putI, w_putZ, w_putJ, w_iald, w_zald, w_iast, w_zast, w_alen, w_sI, w_sJ, w_sV, w_vI, w_vJ, w_vV, w_tI, w_mmax, w_mmin, w_mabs, w_lmax, w_acopy, gL, sL, kl_i, kl_l, kl_r, kl_s, kl_m, qI_i, qJ_l, qA_r, qA_s, pI_i, pJ_l, pA_r, pS_s, pM_m, pV_v, c1_i, c1_r, c1_s, c1_m, cS_0, cS_i, cS_l, cS_r, cS_s, cS_m, pN, z_rc_r, zE1, zE2, zE3, true_and, and_true, Nat.zero_add, Nat.reduceAdd, Nat.reduceLeDiff, true_or, or_true, Int.reduceLE, Int.reduceLT, zcmp_l, zcmp_g, zcmp_e, zcmp_le, mo, mf0, mz0, mf1, mz1, mf2, mz2, mf6, mz6, mf10, mz10, mf11, mz11, mf12, mz12, mf13, mz13, mf14, mz14, mf16, mz16, mf17, mz17, mf18, mz18, mf19, mz19, mi3, mi7, mi8, mi9, mi15, mi4, mi5, mi20, ma125, mn125, ma126, mn126, ma127, mn127, ma128, mn128, ma129, mn129, ma130, mn130, ma131, mn131, ma132, mn132, ma133, mn133, ma134, mn134, ma135, mn135, ma136, mn136, ma137, mn137]
      rw [h.z (by omega) (by omega)]
      exact ⟨fun _ => hP, fun w => absurd (by omega) w⟩
    | succ m ih =>
      intro i hm i0 i1
      have zb := zsum_b (f := fun i => if a (34 + i) = sGl a i then (1 : Int) else 0) (m := 1) i.toNat (fun k _ _ => by split <;> omega)
      have nx := ih (i + 1) (by omega) (by omega) (by omega)
      rw [zsum_s i0] at nx
      refine sX6_thereOnes_4 _ _ _ _ _ ?_
      simp only [tX6_thereOnes_4, w_ic, w_lc, w_lds, w_ild, w_lld, w_ald, w_ist, w_lst, w_ast, w_iinc, w_iadd, w_isub, w_imul, w_idiv, w_irem, w_iand, w_ior, w_ixor, w_ishl, w_ishr, w_iushr, w_ineg, w_ladd, w_lsub, w_lmul, w_ldiv, w_lrem, w_lcmp, w_i2l, w_l2i, w_dup, w_pop, w_dup2, w_ieq, w_zeq, w_ine, w_zne, w_ilt, w_zlt, w_ige, w_zge, w_igt, w_zgt, w_ile, w_zle, w_cut, w_tsw, zsw, w_iret, w_zret, w_lret, w_vret, w_nret, w_getI, w_getJ, w_getR, w_putI, w_putZ, w_putJ, w_iald, w_zald, w_iast, w_zast, w_alen, w_sI, w_sJ, w_sV, w_vI, w_vJ, w_vV, w_tI, w_mmax, w_mmin, w_mabs, w_lmax, w_acopy, gL, sL, kl_i, kl_l, kl_r, kl_s, kl_m, qI_i, qJ_l, qA_r, qA_s, pI_i, pJ_l, pA_r, pS_s, pM_m, pV_v, c1_i, c1_r, c1_s, c1_m, cS_0, cS_i, cS_l, cS_r, cS_s, cS_m, pN, z_rc_r, zE1, zE2, zE3, true_and, and_true, Nat.zero_add, Nat.reduceAdd, Nat.reduceLeDiff, true_or, or_true, Int.reduceLE, Int.reduceLT, zcmp_l, zcmp_g, zcmp_e, zcmp_le, mo, mf0, mz0, mf1, mz1, mf2, mz2, mf6, mz6, mf10, mz10, mf11, mz11, mf12, mz12, mf13, mz13, mf14, mz14, mf16, mz16, mf17, mz17, mf18, mz18, mf19, mz19, mi3, mi7, mi8, mi9, mi15, mi4, mi5, mi20, ma125, mn125, ma126, mn126, ma127, mn127, ma128, mn128, ma129, mn129, ma130, mn130, ma131, mn131, ma132, mn132, ma133, mn133, ma134, mn134, ma135, mn135, ma136, mn136, ma137, mn137]
      rw [h.z (by omega) (by omega), h.z (j := 34 + i) (by omega) (by omega)]
      refine ⟨fun w => absurd w (by omega), fun _ => ?_⟩
      repeat' (with_reducible apply And.intro)
      all_goals first | omega | exact ⟨by omega, by omega⟩ | skip
      refine m_goalOf (Or.inl rfl) h.q i0 (by omega) ⟨fun q => ⟨⟨by omega, by omega⟩, ⟨by omega, by omega⟩, ?_⟩, fun q => ⟨⟨by omega, by omega⟩, ⟨by omega, by omega⟩, ?_⟩⟩
      · rw [if_neg q] at nx; exact nx
      · rw [if_pos (Decidable.not_not.mp q)] at nx; exact nx
  refine e_X6_thereOnes ?_
  simp only [tX6_thereOnes_0, w_ic, w_lc, w_lds, w_ild, w_lld, w_ald, w_ist, w_lst, w_ast, w_iinc, w_iadd, w_isub, w_imul, w_idiv, w_irem, w_iand, w_ior, w_ixor, w_ishl, w_ishr, w_iushr, w_ineg, w_ladd, w_lsub, w_lmul, w_ldiv, w_lrem, w_lcmp, w_i2l, w_l2i, w_dup, w_pop, w_dup2, w_ieq, w_zeq, w_ine, w_zne, w_ilt, w_zlt, w_ige, w_zge, w_igt, w_zgt, w_ile, w_zle, w_cut, w_tsw, zsw, w_iret, w_zret, w_lret, w_vret, w_nret, w_getI, w_getJ, w_getR, w_putI, w_putZ, w_putJ, w_iald, w_zald, w_iast, w_zast, w_alen, w_sI, w_sJ, w_sV, w_vI, w_vJ, w_vV, w_tI, w_mmax, w_mmin, w_mabs, w_lmax, w_acopy, gL, sL, kl_i, kl_l, kl_r, kl_s, kl_m, qI_i, qJ_l, qA_r, qA_s, pI_i, pJ_l, pA_r, pS_s, pM_m, pV_v, c1_i, c1_r, c1_s, c1_m, cS_0, cS_i, cS_l, cS_r, cS_s, cS_m, pN, z_rc_r, zE1, zE2, zE3, true_and, and_true, Nat.zero_add, Nat.reduceAdd, Nat.reduceLeDiff, true_or, or_true, Int.reduceLE, Int.reduceLT, zcmp_l, zcmp_g, zcmp_e, zcmp_le, mo, mf0, mz0, mf1, mz1, mf2, mz2, mf6, mz6, mf10, mz10, mf11, mz11, mf12, mz12, mf13, mz13, mf14, mz14, mf16, mz16, mf17, mz17, mf18, mz18, mf19, mz19, mi3, mi7, mi8, mi9, mi15, mi4, mi5, mi20, ma125, mn125, ma126, mn126, ma127, mn127, ma128, mn128, ma129, mn129, ma130, mn130, ma131, mn131, ma132, mn132, ma133, mn133, ma134, mn134, ma135, mn135, ma136, mn136, ma137, mn137]
  exact loop _ 0 rfl (by omega) n1.1
theorem m_countOf {x : Int} {D s : Mem} {n : Int} {P : Int → Mem → Prop} (hM : yS D s) (hW : WS n s) (x0 : 0 ≤ x) (x1 : x ≤ 9) (hP : P (sHow s x) D) : zC miX6_countOf [zr 124, zi x] D P := by
  have w := hW.1.1
  have h := hM.1
  have hl : ([52, 59, 66, 73, 80, 85, 93, 101, 109] : List Nat).length = 9 := rfl
  unfold sHow at hP
  refine e_X6_countOf ?_
  simp only [tX6_countOf_0, w_ic, w_lc, w_lds, w_ild, w_lld, w_ald, w_ist, w_lst, w_ast, w_iinc, w_iadd, w_isub, w_imul, w_idiv, w_irem, w_iand, w_ior, w_ixor, w_ishl, w_ishr, w_iushr, w_ineg, w_ladd, w_lsub, w_lmul, w_ldiv, w_lrem, w_lcmp, w_i2l, w_l2i, w_dup, w_pop, w_dup2, w_ieq, w_zeq, w_ine, w_zne, w_ilt, w_zlt, w_ige, w_zge, w_igt, w_zgt, w_ile, w_zle, w_cut, w_tsw, zsw, w_iret, w_zret, w_lret, w_vret, w_nret, w_getI, w_getJ, w_getR, w_putI, w_putZ, w_putJ, w_iald, w_zald, w_iast, w_zast, w_alen, w_sI, w_sJ, w_sV, w_vI, w_vJ, w_vV, w_tI, w_mmax, w_mmin, w_mabs, w_lmax, w_acopy, gL, sL, kl_i, kl_l, kl_r, kl_s, kl_m, qI_i, qJ_l, qA_r, qA_s, pI_i, pJ_l, pA_r, pS_s, pM_m, pV_v, c1_i, c1_r, c1_s, c1_m, cS_0, cS_i, cS_l, cS_r, cS_s, cS_m, pN, z_rc_r, zE1, zE2, zE3, true_and, and_true, Nat.zero_add, Nat.reduceAdd, Nat.reduceLeDiff, true_or, or_true, Int.reduceLE, Int.reduceLT, zcmp_l, zcmp_g, zcmp_e, zcmp_le, mo, mf0, mz0, mf1, mz1, mf2, mz2, mf6, mz6, mf10, mz10, mf11, mz11, mf12, mz12, mf13, mz13, mf14, mz14, mf16, mz16, mf17, mz17, mf18, mz18, mf19, mz19, mi3, mi7, mi8, mi9, mi15, mi4, mi5, mi20, ma125, mn125, ma126, mn126, ma127, mn127, ma128, mn128, ma129, mn129, ma130, mn130, ma131, mn131, ma132, mn132, ma133, mn133, ma134, mn134, ma135, mn135, ma136, mn136, ma137, mn137]
  refine ⟨⟨fun g => ?_, fun g => ?_, fun g => ?_, fun g => ?_, fun g => ?_, fun g => ?_, fun g => ?_, fun g => ?_, fun g => ?_⟩, fun g => ?_⟩
  · refine sX6_countOf_52 _ _ _ _ _ ?_
    simp only [tX6_countOf_52, w_ic, w_lc, w_lds, w_ild, w_lld, w_ald, w_ist, w_lst, w_ast, w_iinc, w_iadd, w_isub, w_imul, w_idiv, w_irem, w_iand, w_ior, w_ixor, w_ishl, w_ishr, w_iushr, w_ineg, w_ladd, w_lsub, w_lmul, w_ldiv, w_lrem, w_lcmp, w_i2l, w_l2i, w_dup, w_pop, w_dup2, w_ieq, w_zeq, w_ine, w_zne, w_ilt, w_zlt, w_ige, w_zge, w_igt, w_zgt, w_ile, w_zle, w_cut, w_tsw, zsw, w_iret, w_zret, w_lret, w_vret, w_nret, w_getI, w_getJ, w_getR, w_putI, w_putZ, w_putJ, w_iald, w_zald, w_iast, w_zast, w_alen, w_sI, w_sJ, w_sV, w_vI, w_vJ, w_vV, w_tI, w_mmax, w_mmin, w_mabs, w_lmax, w_acopy, gL, sL, kl_i, kl_l, kl_r, kl_s, kl_m, qI_i, qJ_l, qA_r, qA_s, pI_i, pJ_l, pA_r, pS_s, pM_m, pV_v, c1_i, c1_r, c1_s, c1_m, cS_0, cS_i, cS_l, cS_r, cS_s, cS_m, pN, z_rc_r, zE1, zE2, zE3, true_and, and_true, Nat.zero_add, Nat.reduceAdd, Nat.reduceLeDiff, true_or, or_true, Int.reduceLE, Int.reduceLT, zcmp_l, zcmp_g, zcmp_e, zcmp_le, mo, mf0, mz0, mf1, mz1, mf2, mz2, mf6, mz6, mf10, mz10, mf11, mz11, mf12, mz12, mf13, mz13, mf14, mz14, mf16, mz16, mf17, mz17, mf18, mz18, mf19, mz19, mi3, mi7, mi8, mi9, mi15, mi4, mi5, mi20, ma125, mn125, ma126, mn126, ma127, mn127, ma128, mn128, ma129, mn129, ma130, mn130, ma131, mn131, ma132, mn132, ma133, mn133, ma134, mn134, ma135, mn135, ma136, mn136, ma137, mn137]
    rw [if_pos (by omega)] at hP
    rw [h.z (by omega) (by omega)]; exact hP
  · refine sX6_countOf_59 _ _ _ _ _ ?_
    simp only [tX6_countOf_59, w_ic, w_lc, w_lds, w_ild, w_lld, w_ald, w_ist, w_lst, w_ast, w_iinc, w_iadd, w_isub, w_imul, w_idiv, w_irem, w_iand, w_ior, w_ixor, w_ishl, w_ishr, w_iushr, w_ineg, w_ladd, w_lsub, w_lmul, w_ldiv, w_lrem, w_lcmp, w_i2l, w_l2i, w_dup, w_pop, w_dup2, w_ieq, w_zeq, w_ine, w_zne, w_ilt, w_zlt, w_ige, w_zge, w_igt, w_zgt, w_ile, w_zle, w_cut, w_tsw, zsw, w_iret, w_zret, w_lret, w_vret, w_nret, w_getI, w_getJ, w_getR, w_putI, w_putZ, w_putJ, w_iald, w_zald, w_iast, w_zast, w_alen, w_sI, w_sJ, w_sV, w_vI, w_vJ, w_vV, w_tI, w_mmax, w_mmin, w_mabs, w_lmax, w_acopy, gL, sL, kl_i, kl_l, kl_r, kl_s, kl_m, qI_i, qJ_l, qA_r, qA_s, pI_i, pJ_l, pA_r, pS_s, pM_m, pV_v, c1_i, c1_r, c1_s, c1_m, cS_0, cS_i, cS_l, cS_r, cS_s, cS_m, pN, z_rc_r, zE1, zE2, zE3, true_and, and_true, Nat.zero_add, Nat.reduceAdd, Nat.reduceLeDiff, true_or, or_true, Int.reduceLE, Int.reduceLT, zcmp_l, zcmp_g, zcmp_e, zcmp_le, mo, mf0, mz0, mf1, mz1, mf2, mz2, mf6, mz6, mf10, mz10, mf11, mz11, mf12, mz12, mf13, mz13, mf14, mz14, mf16, mz16, mf17, mz17, mf18, mz18, mf19, mz19, mi3, mi7, mi8, mi9, mi15, mi4, mi5, mi20, ma125, mn125, ma126, mn126, ma127, mn127, ma128, mn128, ma129, mn129, ma130, mn130, ma131, mn131, ma132, mn132, ma133, mn133, ma134, mn134, ma135, mn135, ma136, mn136, ma137, mn137]
    rw [if_neg (by omega), if_pos (by omega)] at hP
    rw [h.z (by omega) (by omega)]; exact hP
  · refine sX6_countOf_66 _ _ _ _ _ ?_
    simp only [tX6_countOf_66, w_ic, w_lc, w_lds, w_ild, w_lld, w_ald, w_ist, w_lst, w_ast, w_iinc, w_iadd, w_isub, w_imul, w_idiv, w_irem, w_iand, w_ior, w_ixor, w_ishl, w_ishr, w_iushr, w_ineg, w_ladd, w_lsub, w_lmul, w_ldiv, w_lrem, w_lcmp, w_i2l, w_l2i, w_dup, w_pop, w_dup2, w_ieq, w_zeq, w_ine, w_zne, w_ilt, w_zlt, w_ige, w_zge, w_igt, w_zgt, w_ile, w_zle, w_cut, w_tsw, zsw, w_iret, w_zret, w_lret, w_vret, w_nret, w_getI, w_getJ, w_getR, w_putI, w_putZ, w_putJ, w_iald, w_zald, w_iast, w_zast, w_alen, w_sI, w_sJ, w_sV, w_vI, w_vJ, w_vV, w_tI, w_mmax, w_mmin, w_mabs, w_lmax, w_acopy, gL, sL, kl_i, kl_l, kl_r, kl_s, kl_m, qI_i, qJ_l, qA_r, qA_s, pI_i, pJ_l, pA_r, pS_s, pM_m, pV_v, c1_i, c1_r, c1_s, c1_m, cS_0, cS_i, cS_l, cS_r, cS_s, cS_m, pN, z_rc_r, zE1, zE2, zE3, true_and, and_true, Nat.zero_add, Nat.reduceAdd, Nat.reduceLeDiff, true_or, or_true, Int.reduceLE, Int.reduceLT, zcmp_l, zcmp_g, zcmp_e, zcmp_le, mo, mf0, mz0, mf1, mz1, mf2, mz2, mf6, mz6, mf10, mz10, mf11, mz11, mf12, mz12, mf13, mz13, mf14, mz14, mf16, mz16, mf17, mz17, mf18, mz18, mf19, mz19, mi3, mi7, mi8, mi9, mi15, mi4, mi5, mi20, ma125, mn125, ma126, mn126, ma127, mn127, ma128, mn128, ma129, mn129, ma130, mn130, ma131, mn131, ma132, mn132, ma133, mn133, ma134, mn134, ma135, mn135, ma136, mn136, ma137, mn137]
    rw [if_neg (by omega), if_neg (by omega), if_pos (by omega)] at hP
    rw [h.z (by omega) (by omega)]; exact hP
  · refine sX6_countOf_73 _ _ _ _ _ ?_
    simp only [tX6_countOf_73, w_ic, w_lc, w_lds, w_ild, w_lld, w_ald, w_ist, w_lst, w_ast, w_iinc, w_iadd, w_isub, w_imul, w_idiv, w_irem, w_iand, w_ior, w_ixor, w_ishl, w_ishr, w_iushr, w_ineg, w_ladd, w_lsub, w_lmul, w_ldiv, w_lrem, w_lcmp, w_i2l, w_l2i, w_dup, w_pop, w_dup2, w_ieq, w_zeq, w_ine, w_zne, w_ilt, w_zlt, w_ige, w_zge, w_igt, w_zgt, w_ile, w_zle, w_cut, w_tsw, zsw, w_iret, w_zret, w_lret, w_vret, w_nret, w_getI, w_getJ, w_getR, w_putI, w_putZ, w_putJ, w_iald, w_zald, w_iast, w_zast, w_alen, w_sI, w_sJ, w_sV, w_vI, w_vJ, w_vV, w_tI, w_mmax, w_mmin, w_mabs, w_lmax, w_acopy, gL, sL, kl_i, kl_l, kl_r, kl_s, kl_m, qI_i, qJ_l, qA_r, qA_s, pI_i, pJ_l, pA_r, pS_s, pM_m, pV_v, c1_i, c1_r, c1_s, c1_m, cS_0, cS_i, cS_l, cS_r, cS_s, cS_m, pN, z_rc_r, zE1, zE2, zE3, true_and, and_true, Nat.zero_add, Nat.reduceAdd, Nat.reduceLeDiff, true_or, or_true, Int.reduceLE, Int.reduceLT, zcmp_l, zcmp_g, zcmp_e, zcmp_le, mo, mf0, mz0, mf1, mz1, mf2, mz2, mf6, mz6, mf10, mz10, mf11, mz11, mf12, mz12, mf13, mz13, mf14, mz14, mf16, mz16, mf17, mz17, mf18, mz18, mf19, mz19, mi3, mi7, mi8, mi9, mi15, mi4, mi5, mi20, ma125, mn125, ma126, mn126, ma127, mn127, ma128, mn128, ma129, mn129, ma130, mn130, ma131, mn131, ma132, mn132, ma133, mn133, ma134, mn134, ma135, mn135, ma136, mn136, ma137, mn137]
    rw [if_neg (by omega), if_neg (by omega), if_neg (by omega), if_pos (by omega)] at hP
    rw [h.z (by omega) (by omega)]; exact hP
  · refine sX6_countOf_80 _ _ _ _ _ ?_
    simp only [tX6_countOf_80, w_ic, w_lc, w_lds, w_ild, w_lld, w_ald, w_ist, w_lst, w_ast, w_iinc, w_iadd, w_isub, w_imul, w_idiv, w_irem, w_iand, w_ior, w_ixor, w_ishl, w_ishr, w_iushr, w_ineg, w_ladd, w_lsub, w_lmul, w_ldiv, w_lrem, w_lcmp, w_i2l, w_l2i, w_dup, w_pop, w_dup2, w_ieq, w_zeq, w_ine, w_zne, w_ilt, w_zlt, w_ige, w_zge, w_igt, w_zgt, w_ile, w_zle, w_cut, w_tsw, zsw, w_iret, w_zret, w_lret, w_vret, w_nret, w_getI, w_getJ, w_getR, w_putI, w_putZ, w_putJ, w_iald, w_zald, w_iast, w_zast, w_alen, w_sI, w_sJ, w_sV, w_vI, w_vJ, w_vV, w_tI, w_mmax, w_mmin, w_mabs, w_lmax, w_acopy, gL, sL, kl_i, kl_l, kl_r, kl_s, kl_m, qI_i, qJ_l, qA_r, qA_s, pI_i, pJ_l, pA_r, pS_s, pM_m, pV_v, c1_i, c1_r, c1_s, c1_m, cS_0, cS_i, cS_l, cS_r, cS_s, cS_m, pN, z_rc_r, zE1, zE2, zE3, true_and, and_true, Nat.zero_add, Nat.reduceAdd, Nat.reduceLeDiff, true_or, or_true, Int.reduceLE, Int.reduceLT, zcmp_l, zcmp_g, zcmp_e, zcmp_le, mo, mf0, mz0, mf1, mz1, mf2, mz2, mf6, mz6, mf10, mz10, mf11, mz11, mf12, mz12, mf13, mz13, mf14, mz14, mf16, mz16, mf17, mz17, mf18, mz18, mf19, mz19, mi3, mi7, mi8, mi9, mi15, mi4, mi5, mi20, ma125, mn125, ma126, mn126, ma127, mn127, ma128, mn128, ma129, mn129, ma130, mn130, ma131, mn131, ma132, mn132, ma133, mn133, ma134, mn134, ma135, mn135, ma136, mn136, ma137, mn137]
    rw [if_neg (by omega), if_neg (by omega), if_neg (by omega), if_neg (by omega), if_pos (by omega)] at hP
    exact m_thereOnes h w hP
  · refine sX6_countOf_85 _ _ _ _ _ ?_
    simp only [tX6_countOf_85, w_ic, w_lc, w_lds, w_ild, w_lld, w_ald, w_ist, w_lst, w_ast, w_iinc, w_iadd, w_isub, w_imul, w_idiv, w_irem, w_iand, w_ior, w_ixor, w_ishl, w_ishr, w_iushr, w_ineg, w_ladd, w_lsub, w_lmul, w_ldiv, w_lrem, w_lcmp, w_i2l, w_l2i, w_dup, w_pop, w_dup2, w_ieq, w_zeq, w_ine, w_zne, w_ilt, w_zlt, w_ige, w_zge, w_igt, w_zgt, w_ile, w_zle, w_cut, w_tsw, zsw, w_iret, w_zret, w_lret, w_vret, w_nret, w_getI, w_getJ, w_getR, w_putI, w_putZ, w_putJ, w_iald, w_zald, w_iast, w_zast, w_alen, w_sI, w_sJ, w_sV, w_vI, w_vJ, w_vV, w_tI, w_mmax, w_mmin, w_mabs, w_lmax, w_acopy, gL, sL, kl_i, kl_l, kl_r, kl_s, kl_m, qI_i, qJ_l, qA_r, qA_s, pI_i, pJ_l, pA_r, pS_s, pM_m, pV_v, c1_i, c1_r, c1_s, c1_m, cS_0, cS_i, cS_l, cS_r, cS_s, cS_m, pN, z_rc_r, zE1, zE2, zE3, true_and, and_true, Nat.zero_add, Nat.reduceAdd, Nat.reduceLeDiff, true_or, or_true, Int.reduceLE, Int.reduceLT, zcmp_l, zcmp_g, zcmp_e, zcmp_le, mo, mf0, mz0, mf1, mz1, mf2, mz2, mf6, mz6, mf10, mz10, mf11, mz11, mf12, mz12, mf13, mz13, mf14, mz14, mf16, mz16, mf17, mz17, mf18, mz18, mf19, mz19, mi3, mi7, mi8, mi9, mi15, mi4, mi5, mi20, ma125, mn125, ma126, mn126, ma127, mn127, ma128, mn128, ma129, mn129, ma130, mn130, ma131, mn131, ma132, mn132, ma133, mn133, ma134, mn134, ma135, mn135, ma136, mn136, ma137, mn137]
    rw [if_neg (by omega), if_neg (by omega), if_neg (by omega), if_neg (by omega), if_neg (by omega), if_pos (by omega)] at hP
    rw [h.z (by omega) (by omega)]; exact hP
  · refine sX6_countOf_93 _ _ _ _ _ ?_
    simp only [tX6_countOf_93, w_ic, w_lc, w_lds, w_ild, w_lld, w_ald, w_ist, w_lst, w_ast, w_iinc, w_iadd, w_isub, w_imul, w_idiv, w_irem, w_iand, w_ior, w_ixor, w_ishl, w_ishr, w_iushr, w_ineg, w_ladd, w_lsub, w_lmul, w_ldiv, w_lrem, w_lcmp, w_i2l, w_l2i, w_dup, w_pop, w_dup2, w_ieq, w_zeq, w_ine, w_zne, w_ilt, w_zlt, w_ige, w_zge, w_igt, w_zgt, w_ile, w_zle, w_cut, w_tsw, zsw, w_iret, w_zret, w_lret, w_vret, w_nret, w_getI, w_getJ, w_getR, w_putI, w_putZ, w_putJ, w_iald, w_zald, w_iast, w_zast, w_alen, w_sI, w_sJ, w_sV, w_vI, w_vJ, w_vV, w_tI, w_mmax, w_mmin, w_mabs, w_lmax, w_acopy, gL, sL, kl_i, kl_l, kl_r, kl_s, kl_m, qI_i, qJ_l, qA_r, qA_s, pI_i, pJ_l, pA_r, pS_s, pM_m, pV_v, c1_i, c1_r, c1_s, c1_m, cS_0, cS_i, cS_l, cS_r, cS_s, cS_m, pN, z_rc_r, zE1, zE2, zE3, true_and, and_true, Nat.zero_add, Nat.reduceAdd, Nat.reduceLeDiff, true_or, or_true, Int.reduceLE, Int.reduceLT, zcmp_l, zcmp_g, zcmp_e, zcmp_le, mo, mf0, mz0, mf1, mz1, mf2, mz2, mf6, mz6, mf10, mz10, mf11, mz11, mf12, mz12, mf13, mz13, mf14, mz14, mf16, mz16, mf17, mz17, mf18, mz18, mf19, mz19, mi3, mi7, mi8, mi9, mi15, mi4, mi5, mi20, ma125, mn125, ma126, mn126, ma127, mn127, ma128, mn128, ma129, mn129, ma130, mn130, ma131, mn131, ma132, mn132, ma133, mn133, ma134, mn134, ma135, mn135, ma136, mn136, ma137, mn137]
    rw [if_neg (by omega), if_neg (by omega), if_neg (by omega), if_neg (by omega), if_neg (by omega), if_neg (by omega), if_pos (by omega)] at hP
    rw [h.z (by omega) (by omega)]; exact hP
  · refine sX6_countOf_101 _ _ _ _ _ ?_
    simp only [tX6_countOf_101, w_ic, w_lc, w_lds, w_ild, w_lld, w_ald, w_ist, w_lst, w_ast, w_iinc, w_iadd, w_isub, w_imul, w_idiv, w_irem, w_iand, w_ior, w_ixor, w_ishl, w_ishr, w_iushr, w_ineg, w_ladd, w_lsub, w_lmul, w_ldiv, w_lrem, w_lcmp, w_i2l, w_l2i, w_dup, w_pop, w_dup2, w_ieq, w_zeq, w_ine, w_zne, w_ilt, w_zlt, w_ige, w_zge, w_igt, w_zgt, w_ile, w_zle, w_cut, w_tsw, zsw, w_iret, w_zret, w_lret, w_vret, w_nret, w_getI, w_getJ, w_getR, w_putI, w_putZ, w_putJ, w_iald, w_zald, w_iast, w_zast, w_alen, w_sI, w_sJ, w_sV, w_vI, w_vJ, w_vV, w_tI, w_mmax, w_mmin, w_mabs, w_lmax, w_acopy, gL, sL, kl_i, kl_l, kl_r, kl_s, kl_m, qI_i, qJ_l, qA_r, qA_s, pI_i, pJ_l, pA_r, pS_s, pM_m, pV_v, c1_i, c1_r, c1_s, c1_m, cS_0, cS_i, cS_l, cS_r, cS_s, cS_m, pN, z_rc_r, zE1, zE2, zE3, true_and, and_true, Nat.zero_add, Nat.reduceAdd, Nat.reduceLeDiff, true_or, or_true, Int.reduceLE, Int.reduceLT, zcmp_l, zcmp_g, zcmp_e, zcmp_le, mo, mf0, mz0, mf1, mz1, mf2, mz2, mf6, mz6, mf10, mz10, mf11, mz11, mf12, mz12, mf13, mz13, mf14, mz14, mf16, mz16, mf17, mz17, mf18, mz18, mf19, mz19, mi3, mi7, mi8, mi9, mi15, mi4, mi5, mi20, ma125, mn125, ma126, mn126, ma127, mn127, ma128, mn128, ma129, mn129, ma130, mn130, ma131, mn131, ma132, mn132, ma133, mn133, ma134, mn134, ma135, mn135, ma136, mn136, ma137, mn137]
    rw [if_neg (by omega), if_neg (by omega), if_neg (by omega), if_neg (by omega), if_neg (by omega), if_neg (by omega), if_neg (by omega), if_pos (by omega)] at hP
    rw [h.z (by omega) (by omega)]; exact hP
  · refine sX6_countOf_109 _ _ _ _ _ ?_
    simp only [tX6_countOf_109, w_ic, w_lc, w_lds, w_ild, w_lld, w_ald, w_ist, w_lst, w_ast, w_iinc, w_iadd, w_isub, w_imul, w_idiv, w_irem, w_iand, w_ior, w_ixor, w_ishl, w_ishr, w_iushr, w_ineg, w_ladd, w_lsub, w_lmul, w_ldiv, w_lrem, w_lcmp, w_i2l, w_l2i, w_dup, w_pop, w_dup2, w_ieq, w_zeq, w_ine, w_zne, w_ilt, w_zlt, w_ige, w_zge, w_igt, w_zgt, w_ile, w_zle, w_cut, w_tsw, zsw, w_iret, w_zret, w_lret, w_vret, w_nret, w_getI, w_getJ, w_getR, w_putI, w_putZ, w_putJ, w_iald, w_zald, w_iast, w_zast, w_alen, w_sI, w_sJ, w_sV, w_vI, w_vJ, w_vV, w_tI, w_mmax, w_mmin, w_mabs, w_lmax, w_acopy, gL, sL, kl_i, kl_l, kl_r, kl_s, kl_m, qI_i, qJ_l, qA_r, qA_s, pI_i, pJ_l, pA_r, pS_s, pM_m, pV_v, c1_i, c1_r, c1_s, c1_m, cS_0, cS_i, cS_l, cS_r, cS_s, cS_m, pN, z_rc_r, zE1, zE2, zE3, true_and, and_true, Nat.zero_add, Nat.reduceAdd, Nat.reduceLeDiff, true_or, or_true, Int.reduceLE, Int.reduceLT, zcmp_l, zcmp_g, zcmp_e, zcmp_le, mo, mf0, mz0, mf1, mz1, mf2, mz2, mf6, mz6, mf10, mz10, mf11, mz11, mf12, mz12, mf13, mz13, mf14, mz14, mf16, mz16, mf17, mz17, mf18, mz18, mf19, mz19, mi3, mi7, mi8, mi9, mi15, mi4, mi5, mi20, ma125, mn125, ma126, mn126, ma127, mn127, ma128, mn128, ma129, mn129, ma130, mn130, ma131, mn131, ma132, mn132, ma133, mn133, ma134, mn134, ma135, mn135, ma136, mn136, ma137, mn137]
    rw [if_neg (by omega), if_neg (by omega), if_neg (by omega), if_neg (by omega), if_neg (by omega), if_neg (by omega), if_neg (by omega), if_neg (by omega), if_pos (by omega)] at hP
    rw [h.z (by omega) (by omega)]; exact hP
  · refine sX6_countOf_117 _ _ _ _ _ ?_
    simp only [tX6_countOf_117, w_ic, w_lc, w_lds, w_ild, w_lld, w_ald, w_ist, w_lst, w_ast, w_iinc, w_iadd, w_isub, w_imul, w_idiv, w_irem, w_iand, w_ior, w_ixor, w_ishl, w_ishr, w_iushr, w_ineg, w_ladd, w_lsub, w_lmul, w_ldiv, w_lrem, w_lcmp, w_i2l, w_l2i, w_dup, w_pop, w_dup2, w_ieq, w_zeq, w_ine, w_zne, w_ilt, w_zlt, w_ige, w_zge, w_igt, w_zgt, w_ile, w_zle, w_cut, w_tsw, zsw, w_iret, w_zret, w_lret, w_vret, w_nret, w_getI, w_getJ, w_getR, w_putI, w_putZ, w_putJ, w_iald, w_zald, w_iast, w_zast, w_alen, w_sI, w_sJ, w_sV, w_vI, w_vJ, w_vV, w_tI, w_mmax, w_mmin, w_mabs, w_lmax, w_acopy, gL, sL, kl_i, kl_l, kl_r, kl_s, kl_m, qI_i, qJ_l, qA_r, qA_s, pI_i, pJ_l, pA_r, pS_s, pM_m, pV_v, c1_i, c1_r, c1_s, c1_m, cS_0, cS_i, cS_l, cS_r, cS_s, cS_m, pN, z_rc_r, zE1, zE2, zE3, true_and, and_true, Nat.zero_add, Nat.reduceAdd, Nat.reduceLeDiff, true_or, or_true, Int.reduceLE, Int.reduceLT, zcmp_l, zcmp_g, zcmp_e, zcmp_le, mo, mf0, mz0, mf1, mz1, mf2, mz2, mf6, mz6, mf10, mz10, mf11, mz11, mf12, mz12, mf13, mz13, mf14, mz14, mf16, mz16, mf17, mz17, mf18, mz18, mf19, mz19, mi3, mi7, mi8, mi9, mi15, mi4, mi5, mi20, ma125, mn125, ma126, mn126, ma127, mn127, ma128, mn128, ma129, mn129, ma130, mn130, ma131, mn131, ma132, mn132, ma133, mn133, ma134, mn134, ma135, mn135, ma136, mn136, ma137, mn137]
    rw [if_neg (by omega), if_neg (by omega), if_neg (by omega), if_neg (by omega), if_neg (by omega), if_neg (by omega), if_neg (by omega), if_neg (by omega), if_neg (by omega)] at hP
    rw [hM.2.2.1.1]; exact hP
theorem m_count {n x : Int} {s : Mem} (hW : WS n s) (hn : n < 1000000) : mOK miX6_count [zr 124, zi x] s (r_count s x) := by
  intro D P hM hP
  unfold r_count at hP
  refine e_X6_count ?_
  simp only [tX6_count_0, w_ic, w_lc, w_lds, w_ild, w_lld, w_ald, w_ist, w_lst, w_ast, w_iinc, w_iadd, w_isub, w_imul, w_idiv, w_irem, w_iand, w_ior, w_ixor, w_ishl, w_ishr, w_iushr, w_ineg, w_ladd, w_lsub, w_lmul, w_ldiv, w_lrem, w_lcmp, w_i2l, w_l2i, w_dup, w_pop, w_dup2, w_ieq, w_zeq, w_ine, w_zne, w_ilt, w_zlt, w_ige, w_zge, w_igt, w_zgt, w_ile, w_zle, w_cut, w_tsw, zsw, w_iret, w_zret, w_lret, w_vret, w_nret, w_getI, w_getJ, w_getR, w_putI, w_putZ, w_putJ, w_iald, w_zald, w_iast, w_zast, w_alen, w_sI, w_sJ, w_sV, w_vI, w_vJ, w_vV, w_tI, w_mmax, w_mmin, w_mabs, w_lmax, w_acopy, gL, sL, kl_i, kl_l, kl_r, kl_s, kl_m, qI_i, qJ_l, qA_r, qA_s, pI_i, pJ_l, pA_r, pS_s, pM_m, pV_v, c1_i, c1_r, c1_s, c1_m, cS_0, cS_i, cS_l, cS_r, cS_s, cS_m, pN, z_rc_r, zE1, zE2, zE3, true_and, and_true, Nat.zero_add, Nat.reduceAdd, Nat.reduceLeDiff, true_or, or_true, Int.reduceLE, Int.reduceLT, zcmp_l, zcmp_g, zcmp_e, zcmp_le, mo, mf0, mz0, mf1, mz1, mf2, mz2, mf6, mz6, mf10, mz10, mf11, mz11, mf12, mz12, mf13, mz13, mf14, mz14, mf16, mz16, mf17, mz17, mf18, mz18, mf19, mz19, mi3, mi7, mi8, mi9, mi15, mi4, mi5, mi20, ma125, mn125, ma126, mn126, ma127, mn127, ma128, mn128, ma129, mn129, ma130, mn130, ma131, mn131, ma132, mn132, ma133, mn133, ma134, mn134, ma135, mn135, ma136, mn136, ma137, mn137]
  refine m_in (fun q => ⟨fun w => absurd w (by decide), fun _ => ?_⟩) (fun q => ⟨fun _ => ?_, fun w => absurd rfl w⟩)
  · rw [cIf_t q] at hP
    exact m_countOf hM hW q.1 q.2 (hP D Fr.rfl hM)
  · rw [cIf_f q] at hP
    exact m_bad hM hW hn hP
theorem m_mix {v : Int} {D : Mem} {P : Int → Mem → Prop} (hP : P 0 (zU D 124 20 (z64 (z64 (31 * D 124 20) + v)))) : zC miX6_mix [zr 124, zl v] D P := by
  refine e_X6_mix ?_
  simp only [tX6_mix_0, w_ic, w_lc, w_lds, w_ild, w_lld, w_ald, w_ist, w_lst, w_ast, w_iinc, w_iadd, w_isub, w_imul, w_idiv, w_irem, w_iand, w_ior, w_ixor, w_ishl, w_ishr, w_iushr, w_ineg, w_ladd, w_lsub, w_lmul, w_ldiv, w_lrem, w_lcmp, w_i2l, w_l2i, w_dup, w_pop, w_dup2, w_ieq, w_zeq, w_ine, w_zne, w_ilt, w_zlt, w_ige, w_zge, w_igt, w_zgt, w_ile, w_zle, w_cut, w_tsw, zsw, w_iret, w_zret, w_lret, w_vret, w_nret, w_getI, w_getJ, w_getR, w_putI, w_putZ, w_putJ, w_iald, w_zald, w_iast, w_zast, w_alen, w_sI, w_sJ, w_sV, w_vI, w_vJ, w_vV, w_tI, w_mmax, w_mmin, w_mabs, w_lmax, w_acopy, gL, sL, kl_i, kl_l, kl_r, kl_s, kl_m, qI_i, qJ_l, qA_r, qA_s, pI_i, pJ_l, pA_r, pS_s, pM_m, pV_v, c1_i, c1_r, c1_s, c1_m, cS_0, cS_i, cS_l, cS_r, cS_s, cS_m, pN, z_rc_r, zE1, zE2, zE3, true_and, and_true, Nat.zero_add, Nat.reduceAdd, Nat.reduceLeDiff, true_or, or_true, Int.reduceLE, Int.reduceLT, zcmp_l, zcmp_g, zcmp_e, zcmp_le, mo, mf0, mz0, mf1, mz1, mf2, mz2, mf6, mz6, mf10, mz10, mf11, mz11, mf12, mz12, mf13, mz13, mf14, mz14, mf16, mz16, mf17, mz17, mf18, mz18, mf19, mz19, mi3, mi7, mi8, mi9, mi15, mi4, mi5, mi20, ma125, mn125, ma126, mn126, ma127, mn127, ma128, mn128, ma129, mn129, ma130, mn130, ma131, mn131, ma132, mn132, ma133, mn133, ma134, mn134, ma135, mn135, ma136, mn136, ma137, mn137]
  exact hP
