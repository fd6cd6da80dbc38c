/-! ===== 42: the model: its fields and arrays, static functions ===== -/
theorem mo : z_o zg 124 6 := o_of rfl (by decide)
theorem mf0 : z_fr zg 124 6 0 125 := fr_of rfl (by decide) rfl
theorem mz0 : zf zg 124 0 = 125 := rfl
theorem mf1 : z_fr zg 124 6 1 126 := fr_of rfl (by decide) rfl
theorem mz1 : zf zg 124 1 = 126 := rfl
theorem mf2 : z_fr zg 124 6 2 127 := fr_of rfl (by decide) rfl
theorem mz2 : zf zg 124 2 = 127 := rfl
theorem mf6 : z_fr zg 124 6 6 128 := fr_of rfl (by decide) rfl
theorem mz6 : zf zg 124 6 = 128 := rfl
theorem mf10 : z_fr zg 124 6 10 129 := fr_of rfl (by decide) rfl
theorem mz10 : zf zg 124 10 = 129 := rfl
theorem mf11 : z_fr zg 124 6 11 130 := fr_of rfl (by decide) rfl
theorem mz11 : zf zg 124 11 = 130 := rfl
theorem mf12 : z_fr zg 124 6 12 131 := fr_of rfl (by decide) rfl
theorem mz12 : zf zg 124 12 = 131 := rfl
theorem mf13 : z_fr zg 124 6 13 132 := fr_of rfl (by decide) rfl
theorem mz13 : zf zg 124 13 = 132 := rfl
theorem mf14 : z_fr zg 124 6 14 133 := fr_of rfl (by decide) rfl
theorem mz14 : zf zg 124 14 = 133 := rfl
theorem mf16 : z_fr zg 124 6 16 134 := fr_of rfl (by decide) rfl
theorem mz16 : zf zg 124 16 = 134 := rfl
theorem mf17 : z_fr zg 124 6 17 135 := fr_of rfl (by decide) rfl
theorem mz17 : zf zg 124 17 = 135 := rfl
theorem mf18 : z_fr zg 124 6 18 136 := fr_of rfl (by decide) rfl
theorem mz18 : zf zg 124 18 = 136 := rfl
theorem mf19 : z_fr zg 124 6 19 137 := fr_of rfl (by decide) rfl
theorem mz19 : zf zg 124 19 = 137 := rfl
theorem mi3 : z_f zg 124 6 3 0 := f_of rfl (by decide) rfl
theorem mi7 : z_f zg 124 6 7 0 := f_of rfl (by decide) rfl
theorem mi8 : z_f zg 124 6 8 0 := f_of rfl (by decide) rfl
theorem mi9 : z_f zg 124 6 9 0 := f_of rfl (by decide) rfl
theorem mi15 : z_f zg 124 6 15 0 := f_of rfl (by decide) rfl
theorem mi4 : z_f zg 124 6 4 2 := f_of rfl (by decide) rfl
theorem mi5 : z_f zg 124 6 5 2 := f_of rfl (by decide) rfl
theorem mi20 : z_f zg 124 6 20 2 := f_of rfl (by decide) rfl
theorem ma125 : z_a zg 125 false := a_of rfl (by decide) (by decide)
theorem mn125 : zn zg 125 = 1146 := rfl
theorem ma126 : z_a zg 126 true := a_of rfl (by decide) (by decide)
theorem mn126 : zn zg 126 = 2 := rfl
theorem ma127 : z_a zg 127 false := a_of rfl (by decide) (by decide)
theorem mn127 : zn zg 127 = 150 := rfl
theorem ma128 : z_a zg 128 false := a_of rfl (by decide) (by decide)
theorem mn128 : zn zg 128 = 3 := rfl
theorem ma129 : z_a zg 129 false := a_of rfl (by decide) (by decide)
theorem mn129 : zn zg 129 = 20 := rfl
theorem ma130 : z_a zg 130 false := a_of rfl (by decide) (by decide)
theorem mn130 : zn zg 130 = 20 := rfl
theorem ma131 : z_a zg 131 false := a_of rfl (by decide) (by decide)
theorem mn131 : zn zg 131 = 6 := rfl
theorem ma132 : z_a zg 132 false := a_of rfl (by decide) (by decide)
theorem mn132 : zn zg 132 = 61 := rfl
theorem ma133 : z_a zg 133 false := a_of rfl (by decide) (by decide)
theorem mn133 : zn zg 133 = 61 := rfl
theorem ma134 : z_a zg 134 false := a_of rfl (by decide) (by decide)
theorem mn134 : zn zg 134 = 36 := rfl
theorem ma135 : z_a zg 135 false := a_of rfl (by decide) (by decide)
theorem mn135 : zn zg 135 = 7 := rfl
theorem ma136 : z_a zg 136 false := a_of rfl (by decide) (by decide)
theorem mn136 : zn zg 136 = 6 := rfl
theorem ma137 : z_a zg 137 false := a_of rfl (by decide) (by decide)
theorem mn137 : zn zg 137 = 6 := rfl
theorem zcmp_l {x y : Int} : (zcmp x y < 0) = (x < y) := by
  unfold zcmp
  apply propext
  split
  · omega
  · split <;> omega
theorem zcmp_g {x y : Int} : (0 < zcmp x y) = (y < x) := by
  unfold zcmp
  apply propext
  split
  · omega
  · split <;> omega
theorem zcmp_e {x y : Int} : (zcmp x y = 0) = (x = y) := by
  unfold zcmp
  apply propext
  split
  · omega
  · split <;> omega
theorem zcmp_le {x y : Int} : (zcmp x y ≤ 0) = (x ≤ y) := by
  unfold zcmp
  apply propext
  split
  · omega
  · split <;> omega
theorem m_in {v l h : Int} {D : Mem} {P : Int → Mem → Prop} (h1 : l ≤ v ∧ v ≤ h → P 1 D) (h0 : ¬ (l ≤ v ∧ v ≤ h) → P 0 D) : zC miX6_in [zl v, zl l, zl h] D P := by
  refine e_X6_in ?_
  simp only [tX6_in_0, w_ic, w_lc, w_lds, w_ild, w_lld, w_ald, w_ist, w_lst, w_ast, w_iinc, w_iadd, w_isub, w_imul, w_idiv, w_irem, w_iand, w_ior, w_ixor, w_ishl, w_ishr, w_iushr, w_ineg, w_ladd, w_lsub, w_lmul, w_ldiv, w_lrem, w_lcmp, w_i2l, w_l2i, w_dup, w_pop, w_dup2, w_ieq, w_zeq, w_ine, w_zne, w_ilt, w_zlt, w_ige, w_zge, w_igt, w_zgt, w_ile, w_zle, w_cut, w_tsw, zsw, w_iret, w_zret, w_lret, w_vret, w_nret, w_getI, w_getJ, w_getR, w_putI, w_putZ, w_putJ, w_iald, w_zald, w_iast, w_zast, w_alen, w_sI, w_sJ, w_sV, w_vI, w_vJ, w_vV, w_tI, w_mmax, w_mmin, w_mabs, w_lmax, w_acopy, gL, sL, kl_i, kl_l, kl_r, kl_s, kl_m, qI_i, qJ_l, qA_r, qA_s, pI_i, pJ_l, pA_r, pS_s, pM_m, pV_v, c1_i, c1_r, c1_s, c1_m, cS_0, cS_i, cS_l, cS_r, cS_s, cS_m, pN, z_rc_r, zE1, zE2, zE3, true_and, and_true, Nat.zero_add, Nat.reduceAdd, Nat.reduceLeDiff, true_or, or_true, Int.reduceLE, Int.reduceLT, zcmp_l, zcmp_g, zcmp_e, zcmp_le, mo, mf0, mz0, mf1, mz1, mf2, mz2, mf6, mz6, mf10, mz10, mf11, mz11, mf12, mz12, mf13, mz13, mf14, mz14, mf16, mz16, mf17, mz17, mf18, mz18, mf19, mz19, mi3, mi7, mi8, mi9, mi15, mi4, mi5, mi20, ma125, mn125, ma126, mn126, ma127, mn127, ma128, mn128, ma129, mn129, ma130, mn130, ma131, mn131, ma132, mn132, ma133, mn133, ma134, mn134, ma135, mn135, ma136, mn136, ma137, mn137]
  exact ⟨fun q => h0 (by omega), fun q => ⟨fun q2 => h0 (by omega), fun q2 => h1 (by omega)⟩⟩
theorem m_has {x k : Int} {D : Mem} {P : Int → Mem → Prop} (x0 : 0 ≤ x) (x1 : x < 2147483648) (k0 : 0 ≤ k) (k1 : k < 32) (h1 : zbt x k = 1 → P 1 D) (h0 : zbt x k = 0 → P 0 D) : zC miX6_has [zi x, zi k] D P := by
  refine e_X6_has ?_
  simp only [tX6_has_0, w_ic, w_lc, w_lds, w_ild, w_lld, w_ald, w_ist, w_lst, w_ast, w_iinc, w_iadd, w_isub, w_imul, w_idiv, w_irem, w_iand, w_ior, w_ixor, w_ishl, w_ishr, w_iushr, w_ineg, w_ladd, w_lsub, w_lmul, w_ldiv, w_lrem, w_lcmp, w_i2l, w_l2i, w_dup, w_pop, w_dup2, w_ieq, w_zeq, w_ine, w_zne, w_ilt, w_zlt, w_ige, w_zge, w_igt, w_zgt, w_ile, w_zle, w_cut, w_tsw, zsw, w_iret, w_zret, w_lret, w_vret, w_nret, w_getI, w_getJ, w_getR, w_putI, w_putZ, w_putJ, w_iald, w_zald, w_iast, w_zast, w_alen, w_sI, w_sJ, w_sV, w_vI, w_vJ, w_vV, w_tI, w_mmax, w_mmin, w_mabs, w_lmax, w_acopy, gL, sL, kl_i, kl_l, kl_r, kl_s, kl_m, qI_i, qJ_l, qA_r, qA_s, pI_i, pJ_l, pA_r, pS_s, pM_m, pV_v, c1_i, c1_r, c1_s, c1_m, cS_0, cS_i, cS_l, cS_r, cS_s, cS_m, pN, z_rc_r, zE1, zE2, zE3, true_and, and_true, Nat.zero_add, Nat.reduceAdd, Nat.reduceLeDiff, true_or, or_true, Int.reduceLE, Int.reduceLT, zcmp_l, zcmp_g, zcmp_e, zcmp_le, mo, mf0, mz0, mf1, mz1, mf2, mz2, mf6, mz6, mf10, mz10, mf11, mz11, mf12, mz12, mf13, mz13, mf14, mz14, mf16, mz16, mf17, mz17, mf18, mz18, mf19, mz19, mi3, mi7, mi8, mi9, mi15, mi4, mi5, mi20, ma125, mn125, ma126, mn126, ma127, mn127, ma128, mn128, ma129, mn129, ma130, mn130, ma131, mn131, ma132, mn132, ma133, mn133, ma134, mn134, ma135, mn135, ma136, mn136, ma137, mn137]
  rw [zbt_e x0 x1 k0 k1]
  have := zbt_1 (x := x) (k := k)
  exact ⟨fun q => h0 (by omega), fun q => h1 (by omega)⟩
theorem m_ones {x : Int} {D : Mem} {P : Int → Mem → Prop} (x0 : 0 ≤ x) (x1 : x < 2147483648) (hP : P (zsum 6 (zbt x)) D) : zC miX6_ones [zi x] D P := by
  have loop : ∀ (r k : Nat), 6 - k = r → k ≤ 6 → zW miX6_ones P 4 [zi x, zi (zsum k (zbt x)), zi k] D := by
    intro r
    induction r with
    | zero =>
      intro k hr hk
      refine sX6_ones_4 _ _ _ _ _ ?_
      simp only [tX6_ones_4, w_ic, w_lc, w_lds, w_ild, w_lld, w_ald, w_ist, w_lst, w_ast, w_iinc, w_iadd, w_isub, w_imul, w_idiv, w_irem, w_iand, w_ior, w_ixor, w_ishl, w_ishr, w_iushr, w_ineg, w_ladd, w_lsub, w_lmul, w_ldiv, w_lrem, w_lcmp, w_i2l, w_l2i, w_dup, w_pop, w_dup2, w_ieq, w_zeq, w_ine, w_zne, w_ilt, w_zlt, w_ige, w_zge, w_igt, w_zgt, w_ile, w_zle, w_cut, w_tsw, zsw, w_iret, w_zret, w_lret, w_vret, w_nret, w_getI, w_getJ, w_getR, w_putI, w_putZ, w_putJ, w_iald, w_zald, w_iast, w_zast, w_alen, w_sI, w_sJ, w_sV, w_vI, w_vJ, w_vV, w_tI, w_mmax, w_mmin, w_mabs, w_lmax, w_acopy, gL, sL, kl_i, kl_l, kl_r, kl_s, kl_m, qI_i, qJ_l, qA_r, qA_s, pI_i, pJ_l, pA_r, pS_s, pM_m, pV_v, c1_i, c1_r, c1_s, c1_m, cS_0, cS_i, cS_l, cS_r, cS_s, cS_m, pN, z_rc_r, zE1, zE2, zE3, true_and, and_true, Nat.zero_add, Nat.reduceAdd, Nat.reduceLeDiff, true_or, or_true, Int.reduceLE, Int.reduceLT, zcmp_l, zcmp_g, zcmp_e, zcmp_le, mo, mf0, mz0, mf1, mz1, mf2, mz2, mf6, mz6, mf10, mz10, mf11, mz11, mf12, mz12, mf13, mz13, mf14, mz14, mf16, mz16, mf17, mz17, mf18, mz18, mf19, mz19, mi3, mi7, mi8, mi9, mi15, mi4, mi5, mi20, ma125, mn125, ma126, mn126, ma127, mn127, ma128, mn128, ma129, mn129, ma130, mn130, ma131, mn131, ma132, mn132, ma133, mn133, ma134, mn134, ma135, mn135, ma136, mn136, ma137, mn137]
      refine ⟨fun _ => ?_, fun w => absurd (by omega) w⟩
      rw [show k = 6 by omega]
      exact hP
    | succ r ih =>
      intro k hr hk
      have b := zsum_b (f := zbt x) (m := 1) k (fun j _ _ => by have := zbt_1 (x := x) (k := j); omega)
      have b1 := zbt_1 (x := x) (k := k)
      refine sX6_ones_4 _ _ _ _ _ ?_
      simp only [tX6_ones_4, w_ic, w_lc, w_lds, w_ild, w_lld, w_ald, w_ist, w_lst, w_ast, w_iinc, w_iadd, w_isub, w_imul, w_idiv, w_irem, w_iand, w_ior, w_ixor, w_ishl, w_ishr, w_iushr, w_ineg, w_ladd, w_lsub, w_lmul, w_ldiv, w_lrem, w_lcmp, w_i2l, w_l2i, w_dup, w_pop, w_dup2, w_ieq, w_zeq, w_ine, w_zne, w_ilt, w_zlt, w_ige, w_zge, w_igt, w_zgt, w_ile, w_zle, w_cut, w_tsw, zsw, w_iret, w_zret, w_lret, w_vret, w_nret, w_getI, w_getJ, w_getR, w_putI, w_putZ, w_putJ, w_iald, w_zald, w_iast, w_zast, w_alen, w_sI, w_sJ, w_sV, w_vI, w_vJ, w_vV, w_tI, w_mmax, w_mmin, w_mabs, w_lmax, w_acopy, gL, sL, kl_i, kl_l, kl_r, kl_s, kl_m, qI_i, qJ_l, qA_r, qA_s, pI_i, pJ_l, pA_r, pS_s, pM_m, pV_v, c1_i, c1_r, c1_s, c1_m, cS_0, cS_i, cS_l, cS_r, cS_s, cS_m, pN, z_rc_r, zE1, zE2, zE3, true_and, and_true, Nat.zero_add, Nat.reduceAdd, Nat.reduceLeDiff, true_or, or_true, Int.reduceLE, Int.reduceLT, zcmp_l, zcmp_g, zcmp_e, zcmp_le, mo, mf0, mz0, mf1, mz1, mf2, mz2, mf6, mz6, mf10, mz10, mf11, mz11, mf12, mz12, mf13, mz13, mf14, mz14, mf16, mz16, mf17, mz17, mf18, mz18, mf19, mz19, mi3, mi7, mi8, mi9, mi15, mi4, mi5, mi20, ma125, mn125, ma126, mn126, ma127, mn127, ma128, mn128, ma129, mn129, ma130, mn130, ma131, mn131, ma132, mn132, ma133, mn133, ma134, mn134, ma135, mn135, ma136, mn136, ma137, mn137]
      refine ⟨fun w => absurd w (by omega), fun _ => ?_⟩
      rw [zbt_e x0 x1 (by omega) (by omega)]
      exact ⟨⟨by omega, by omega⟩, ⟨by omega, by omega⟩, ih (k + 1) (by omega) (by omega)⟩
  refine e_X6_ones ?_
  simp only [tX6_ones_0, w_ic, w_lc, w_lds, w_ild, w_lld, w_ald, w_ist, w_lst, w_ast, w_iinc, w_iadd, w_isub, w_imul, w_idiv, w_irem, w_iand, w_ior, w_ixor, w_ishl, w_ishr, w_iushr, w_ineg, w_ladd, w_lsub, w_lmul, w_ldiv, w_lrem, w_lcmp, w_i2l, w_l2i, w_dup, w_pop, w_dup2, w_ieq, w_zeq, w_ine, w_zne, w_ilt, w_zlt, w_ige, w_zge, w_igt, w_zgt, w_ile, w_zle, w_cut, w_tsw, zsw, w_iret, w_zret, w_lret, w_vret, w_nret, w_getI, w_getJ, w_getR, w_putI, w_putZ, w_putJ, w_iald, w_zald, w_iast, w_zast, w_alen, w_sI, w_sJ, w_sV, w_vI, w_vJ, w_vV, w_tI, w_mmax, w_mmin, w_mabs, w_lmax, w_acopy, gL, sL, kl_i, kl_l, kl_r, kl_s, kl_m, qI_i, qJ_l, qA_r, qA_s, pI_i, pJ_l, pA_r, pS_s, pM_m, pV_v, c1_i, c1_r, c1_s, c1_m, cS_0, cS_i, cS_l, cS_r, cS_s, cS_m, pN, z_rc_r, zE1, zE2, zE3, true_and, and_true, Nat.zero_add, Nat.reduceAdd, Nat.reduceLeDiff, true_or, or_true, Int.reduceLE, Int.reduceLT, zcmp_l, zcmp_g, zcmp_e, zcmp_le, mo, mf0, mz0, mf1, mz1, mf2, mz2, mf6, mz6, mf10, mz10, mf11, mz11, mf12, mz12, mf13, mz13, mf14, mz14, mf16, mz16, mf17, mz17, mf18, mz18, mf19, mz19, mi3, mi7, mi8, mi9, mi15, mi4, mi5, mi20, ma125, mn125, ma126, mn126, ma127, mn127, ma128, mn128, ma129, mn129, ma130, mn130, ma131, mn131, ma132, mn132, ma133, mn133, ma134, mn134, ma135, mn135, ma136, mn136, ma137, mn137]
  exact loop 6 0 rfl (by omega)
theorem m_isCell {c : Int} {D : Mem} {P : Int → Mem → Prop} (h1 : inC c → P 1 D) (h0 : ¬ inC c → P 0 D) : zC miX6_isCell [zi c] D P := by
  refine e_X6_isCell ?_
  simp only [tX6_isCell_0, w_ic, w_lc, w_lds, w_ild, w_lld, w_ald, w_ist, w_lst, w_ast, w_iinc, w_iadd, w_isub, w_imul, w_idiv, w_irem, w_iand, w_ior, w_ixor, w_ishl, w_ishr, w_iushr, w_ineg, w_ladd, w_lsub, w_lmul, w_ldiv, w_lrem, w_lcmp, w_i2l, w_l2i, w_dup, w_pop, w_dup2, w_ieq, w_zeq, w_ine, w_zne, w_ilt, w_zlt, w_ige, w_zge, w_igt, w_zgt, w_ile, w_zle, w_cut, w_tsw, zsw, w_iret, w_zret, w_lret, w_vret, w_nret, w_getI, w_getJ, w_getR, w_putI, w_putZ, w_putJ, w_iald, w_zald, w_iast, w_zast, w_alen, w_sI, w_sJ, w_sV, w_vI, w_vJ, w_vV, w_tI, w_mmax, w_mmin, w_mabs, w_lmax, w_acopy, gL, sL, kl_i, kl_l, kl_r, kl_s, kl_m, qI_i, qJ_l, qA_r, qA_s, pI_i, pJ_l, pA_r, pS_s, pM_m, pV_v, c1_i, c1_r, c1_s, c1_m, cS_0, cS_i, cS_l, cS_r, cS_s, cS_m, pN, z_rc_r, zE1, zE2, zE3, true_and, and_true, Nat.zero_add, Nat.reduceAdd, Nat.reduceLeDiff, true_or, or_true, Int.reduceLE, Int.reduceLT, zcmp_l, zcmp_g, zcmp_e, zcmp_le, mo, mf0, mz0, mf1, mz1, mf2, mz2, mf6, mz6, mf10, mz10, mf11, mz11, mf12, mz12, mf13, mz13, mf14, mz14, mf16, mz16, mf17, mz17, mf18, mz18, mf19, mz19, mi3, mi7, mi8, mi9, mi15, mi4, mi5, mi20, ma125, mn125, ma126, mn126, ma127, mn127, ma128, mn128, ma129, mn129, ma130, mn130, ma131, mn131, ma132, mn132, ma133, mn133, ma134, mn134, ma135, mn135, ma136, mn136, ma137, mn137]
  exact m_in (fun q => ⟨Or.inr rfl, h1 ⟨q.1, by omega⟩⟩) (fun q => ⟨Or.inl rfl, h0 fun w => q ⟨w.1, by have := w.2; omega⟩⟩)
theorem m_slipper {f : Int} {D : Mem} {P : Int → Mem → Prop} (h0 : 0 ≤ f) (h1 : f ≤ 1000000) (hP : P (zSl f) D) : zC miX6_slipper [zi f] D P := by
  refine e_X6_slipper ?_
  simp only [tX6_slipper_0, w_ic, w_lc, w_lds, w_ild, w_lld, w_ald, w_ist, w_lst, w_ast, w_iinc, w_iadd, w_isub, w_imul, w_idiv, w_irem, w_iand, w_ior, w_ixor, w_ishl, w_ishr, w_iushr, w_ineg, w_ladd, w_lsub, w_lmul, w_ldiv, w_lrem, w_lcmp, w_i2l, w_l2i, w_dup, w_pop, w_dup2, w_ieq, w_zeq, w_ine, w_zne, w_ilt, w_zlt, w_ige, w_zge, w_igt, w_zgt, w_ile, w_zle, w_cut, w_tsw, zsw, w_iret, w_zret, w_lret, w_vret, w_nret, w_getI, w_getJ, w_getR, w_putI, w_putZ, w_putJ, w_iald, w_zald, w_iast, w_zast, w_alen, w_sI, w_sJ, w_sV, w_vI, w_vJ, w_vV, w_tI, w_mmax, w_mmin, w_mabs, w_lmax, w_acopy, gL, sL, kl_i, kl_l, kl_r, kl_s, kl_m, qI_i, qJ_l, qA_r, qA_s, pI_i, pJ_l, pA_r, pS_s, pM_m, pV_v, c1_i, c1_r, c1_s, c1_m, cS_0, cS_i, cS_l, cS_r, cS_s, cS_m, pN, z_rc_r, zE1, zE2, zE3, true_and, and_true, Nat.zero_add, Nat.reduceAdd, Nat.reduceLeDiff, true_or, or_true, Int.reduceLE, Int.reduceLT, zcmp_l, zcmp_g, zcmp_e, zcmp_le, mo, mf0, mz0, mf1, mz1, mf2, mz2, mf6, mz6, mf10, mz10, mf11, mz11, mf12, mz12, mf13, mz13, mf14, mz14, mf16, mz16, mf17, mz17, mf18, mz18, mf19, mz19, mi3, mi7, mi8, mi9, mi15, mi4, mi5, mi20, ma125, mn125, ma126, mn126, ma127, mn127, ma128, mn128, ma129, mn129, ma130, mn130, ma131, mn131, ma132, mn132, ma133, mn133, ma134, mn134, ma135, mn135, ma136, mn136, ma137, mn137]
  unfold zSl at hP
  exact ⟨h0, ⟨by omega, by omega⟩, hP⟩
theorem m_boot {f : Int} {D : Mem} {P : Int → Mem → Prop} (h0 : 0 ≤ f) (h1 : f ≤ 1000000) (hP : P (zSl f + 2) D) : zC miX6_boot [zi f] D P := by
  refine e_X6_boot ?_
  simp only [tX6_boot_0, w_ic, w_lc, w_lds, w_ild, w_lld, w_ald, w_ist, w_lst, w_ast, w_iinc, w_iadd, w_isub, w_imul, w_idiv, w_irem, w_iand, w_ior, w_ixor, w_ishl, w_ishr, w_iushr, w_ineg, w_ladd, w_lsub, w_lmul, w_ldiv, w_lrem, w_lcmp, w_i2l, w_l2i, w_dup, w_pop, w_dup2, w_ieq, w_zeq, w_ine, w_zne, w_ilt, w_zlt, w_ige, w_zge, w_igt, w_zgt, w_ile, w_zle, w_cut, w_tsw, zsw, w_iret, w_zret, w_lret, w_vret, w_nret, w_getI, w_getJ, w_getR, w_putI, w_putZ, w_putJ, w_iald, w_zald, w_iast, w_zast, w_alen, w_sI, w_sJ, w_sV, w_vI, w_vJ, w_vV, w_tI, w_mmax, w_mmin, w_mabs, w_lmax, w_acopy, gL, sL, kl_i, kl_l, kl_r, kl_s, kl_m, qI_i, qJ_l, qA_r, qA_s, pI_i, pJ_l, pA_r, pS_s, pM_m, pV_v, c1_i, c1_r, c1_s, c1_m, cS_0, cS_i, cS_l, cS_r, cS_s, cS_m, pN, z_rc_r, zE1, zE2, zE3, true_and, and_true, Nat.zero_add, Nat.reduceAdd, Nat.reduceLeDiff, true_or, or_true, Int.reduceLE, Int.reduceLT, zcmp_l, zcmp_g, zcmp_e, zcmp_le, mo, mf0, mz0, mf1, mz1, mf2, mz2, mf6, mz6, mf10, mz10, mf11, mz11, mf12, mz12, mf13, mz13, mf14, mz14, mf16, mz16, mf17, mz17, mf18, mz18, mf19, mz19, mi3, mi7, mi8, mi9, mi15, mi4, mi5, mi20, ma125, mn125, ma126, mn126, ma127, mn127, ma128, mn128, ma129, mn129, ma130, mn130, ma131, mn131, ma132, mn132, ma133, mn133, ma134, mn134, ma135, mn135, ma136, mn136, ma137, mn137]
  refine m_slipper h0 h1 ?_
  have : zSl f = 1 + f / 2 := rfl
  exact ⟨⟨by omega, by omega⟩, hP⟩
theorem m_loudOf {k f m : Int} {D : Mem} {P : Int → Mem → Prop} (k0 : 0 ≤ k) (k1 : k < 6) (h0 : 0 ≤ f) (h1 : f ≤ 1000000) (m0 : 0 ≤ m) (hP : P (zLo k f m) D) : zC miX6_loudOf [zi k, zi f, zi m] D P := by
  have hs : zSl f = 1 + f / 2 := rfl
  have hl : ([36, 41, 56, 74, 81] : List Nat).length = 5 := rfl
  unfold zLo at hP
  refine e_X6_loudOf ?_
  simp only [tX6_loudOf_0, w_ic, w_lc, w_lds, w_ild, w_lld, w_ald, w_ist, w_lst, w_ast, w_iinc, w_iadd, w_isub, w_imul, w_idiv, w_irem, w_iand, w_ior, w_ixor, w_ishl, w_ishr, w_iushr, w_ineg, w_ladd, w_lsub, w_lmul, w_ldiv, w_lrem, w_lcmp, w_i2l, w_l2i, w_dup, w_pop, w_dup2, w_ieq, w_zeq, w_ine, w_zne, w_ilt, w_zlt, w_ige, w_zge, w_igt, w_zgt, w_ile, w_zle, w_cut, w_tsw, zsw, w_iret, w_zret, w_lret, w_vret, w_nret, w_getI, w_getJ, w_getR, w_putI, w_putZ, w_putJ, w_iald, w_zald, w_iast, w_zast, w_alen, w_sI, w_sJ, w_sV, w_vI, w_vJ, w_vV, w_tI, w_mmax, w_mmin, w_mabs, w_lmax, w_acopy, gL, sL, kl_i, kl_l, kl_r, kl_s, kl_m, qI_i, qJ_l, qA_r, qA_s, pI_i, pJ_l, pA_r, pS_s, pM_m, pV_v, c1_i, c1_r, c1_s, c1_m, cS_0, cS_i, cS_l, cS_r, cS_s, cS_m, pN, z_rc_r, zE1, zE2, zE3, true_and, and_true, Nat.zero_add, Nat.reduceAdd, Nat.reduceLeDiff, true_or, or_true, Int.reduceLE, Int.reduceLT, zcmp_l, zcmp_g, zcmp_e, zcmp_le, mo, mf0, mz0, mf1, mz1, mf2, mz2, mf6, mz6, mf10, mz10, mf11, mz11, mf12, mz12, mf13, mz13, mf14, mz14, mf16, mz16, mf17, mz17, mf18, mz18, mf19, mz19, mi3, mi7, mi8, mi9, mi15, mi4, mi5, mi20, ma125, mn125, ma126, mn126, ma127, mn127, ma128, mn128, ma129, mn129, ma130, mn130, ma131, mn131, ma132, mn132, ma133, mn133, ma134, mn134, ma135, mn135, ma136, mn136, ma137, mn137]
  refine ⟨⟨fun h => ?_, fun h => ?_, fun h => ?_, fun h => ?_, fun h => ?_⟩, fun h => ?_⟩
  · refine sX6_loudOf_36 _ _ _ _ _ ?_
    simp only [tX6_loudOf_36, w_ic, w_lc, w_lds, w_ild, w_lld, w_ald, w_ist, w_lst, w_ast, w_iinc, w_iadd, w_isub, w_imul, w_idiv, w_irem, w_iand, w_ior, w_ixor, w_ishl, w_ishr, w_iushr, w_ineg, w_ladd, w_lsub, w_lmul, w_ldiv, w_lrem, w_lcmp, w_i2l, w_l2i, w_dup, w_pop, w_dup2, w_ieq, w_zeq, w_ine, w_zne, w_ilt, w_zlt, w_ige, w_zge, w_igt, w_zgt, w_ile, w_zle, w_cut, w_tsw, zsw, w_iret, w_zret, w_lret, w_vret, w_nret, w_getI, w_getJ, w_getR, w_putI, w_putZ, w_putJ, w_iald, w_zald, w_iast, w_zast, w_alen, w_sI, w_sJ, w_sV, w_vI, w_vJ, w_vV, w_tI, w_mmax, w_mmin, w_mabs, w_lmax, w_acopy, gL, sL, kl_i, kl_l, kl_r, kl_s, kl_m, qI_i, qJ_l, qA_r, qA_s, pI_i, pJ_l, pA_r, pS_s, pM_m, pV_v, c1_i, c1_r, c1_s, c1_m, cS_0, cS_i, cS_l, cS_r, cS_s, cS_m, pN, z_rc_r, zE1, zE2, zE3, true_and, and_true, Nat.zero_add, Nat.reduceAdd, Nat.reduceLeDiff, true_or, or_true, Int.reduceLE, Int.reduceLT, zcmp_l, zcmp_g, zcmp_e, zcmp_le, mo, mf0, mz0, mf1, mz1, mf2, mz2, mf6, mz6, mf10, mz10, mf11, mz11, mf12, mz12, mf13, mz13, mf14, mz14, mf16, mz16, mf17, mz17, mf18, mz18, mf19, mz19, mi3, mi7, mi8, mi9, mi15, mi4, mi5, mi20, ma125, mn125, ma126, mn126, ma127, mn127, ma128, mn128, ma129, mn129, ma130, mn130, ma131, mn131, ma132, mn132, ma133, mn133, ma134, mn134, ma135, mn135, ma136, mn136, ma137, mn137]
    rw [if_neg (by omega), if_pos (by omega)] at hP
    exact m_boot h0 h1 hP
  · refine sX6_loudOf_41 _ _ _ _ _ ?_
    simp only [tX6_loudOf_41, w_ic, w_lc, w_lds, w_ild, w_lld, w_ald, w_ist, w_lst, w_ast, w_iinc, w_iadd, w_isub, w_imul, w_idiv, w_irem, w_iand, w_ior, w_ixor, w_ishl, w_ishr, w_iushr, w_ineg, w_ladd, w_lsub, w_lmul, w_ldiv, w_lrem, w_lcmp, w_i2l, w_l2i, w_dup, w_pop, w_dup2, w_ieq, w_zeq, w_ine, w_zne, w_ilt, w_zlt, w_ige, w_zge, w_igt, w_zgt, w_ile, w_zle, w_cut, w_tsw, zsw, w_iret, w_zret, w_lret, w_vret, w_nret, w_getI, w_getJ, w_getR, w_putI, w_putZ, w_putJ, w_iald, w_zald, w_iast, w_zast, w_alen, w_sI, w_sJ, w_sV, w_vI, w_vJ, w_vV, w_tI, w_mmax, w_mmin, w_mabs, w_lmax, w_acopy, gL, sL, kl_i, kl_l, kl_r, kl_s, kl_m, qI_i, qJ_l, qA_r, qA_s, pI_i, pJ_l, pA_r, pS_s, pM_m, pV_v, c1_i, c1_r, c1_s, c1_m, cS_0, cS_i, cS_l, cS_r, cS_s, cS_m, pN, z_rc_r, zE1, zE2, zE3, true_and, and_true, Nat.zero_add, Nat.reduceAdd, Nat.reduceLeDiff, true_or, or_true, Int.reduceLE, Int.reduceLT, zcmp_l, zcmp_g, zcmp_e, zcmp_le, mo, mf0, mz0, mf1, mz1, mf2, mz2, mf6, mz6, mf10, mz10, mf11, mz11, mf12, mz12, mf13, mz13, mf14, mz14, mf16, mz16, mf17, mz17, mf18, mz18, mf19, mz19, mi3, mi7, mi8, mi9, mi15, mi4, mi5, mi20, ma125, mn125, ma126, mn126, ma127, mn127, ma128, mn128, ma129, mn129, ma130, mn130, ma131, mn131, ma132, mn132, ma133, mn133, ma134, mn134, ma135, mn135, ma136, mn136, ma137, mn137]
    rw [if_neg (by omega), if_neg (by omega), if_pos (by omega)] at hP
    refine ⟨m0, fun q => m_slipper h0 h1 ?_, fun q => ?_⟩
    · rw [if_neg (by omega)] at hP; exact hP
    · rw [if_pos (by omega)] at hP; exact hP
  · refine sX6_loudOf_56 _ _ _ _ _ ?_
    simp only [tX6_loudOf_56, w_ic, w_lc, w_lds, w_ild, w_lld, w_ald, w_ist, w_lst, w_ast, w_iinc, w_iadd, w_isub, w_imul, w_idiv, w_irem, w_iand, w_ior, w_ixor, w_ishl, w_ishr, w_iushr, w_ineg, w_ladd, w_lsub, w_lmul, w_ldiv, w_lrem, w_lcmp, w_i2l, w_l2i, w_dup, w_pop, w_dup2, w_ieq, w_zeq, w_ine, w_zne, w_ilt, w_zlt, w_ige, w_zge, w_igt, w_zgt, w_ile, w_zle, w_cut, w_tsw, zsw, w_iret, w_zret, w_lret, w_vret, w_nret, w_getI, w_getJ, w_getR, w_putI, w_putZ, w_putJ, w_iald, w_zald, w_iast, w_zast, w_alen, w_sI, w_sJ, w_sV, w_vI, w_vJ, w_vV, w_tI, w_mmax, w_mmin, w_mabs, w_lmax, w_acopy, gL, sL, kl_i, kl_l, kl_r, kl_s, kl_m, qI_i, qJ_l, qA_r, qA_s, pI_i, pJ_l, pA_r, pS_s, pM_m, pV_v, c1_i, c1_r, c1_s, c1_m, cS_0, cS_i, cS_l, cS_r, cS_s, cS_m, pN, z_rc_r, zE1, zE2, zE3, true_and, and_true, Nat.zero_add, Nat.reduceAdd, Nat.reduceLeDiff, true_or, or_true, Int.reduceLE, Int.reduceLT, zcmp_l, zcmp_g, zcmp_e, zcmp_le, mo, mf0, mz0, mf1, mz1, mf2, mz2, mf6, mz6, mf10, mz10, mf11, mz11, mf12, mz12, mf13, mz13, mf14, mz14, mf16, mz16, mf17, mz17, mf18, mz18, mf19, mz19, mi3, mi7, mi8, mi9, mi15, mi4, mi5, mi20, ma125, mn125, ma126, mn126, ma127, mn127, ma128, mn128, ma129, mn129, ma130, mn130, ma131, mn131, ma132, mn132, ma133, mn133, ma134, mn134, ma135, mn135, ma136, mn136, ma137, mn137]
    rw [if_neg (by omega), if_neg (by omega), if_neg (by omega), if_pos (by omega)] at hP
    refine ⟨fun q => m_boot h0 h1 ?_, fun q => m_boot h0 h1 ⟨⟨by omega, by omega⟩, ?_⟩⟩
    · rw [if_neg q] at hP; exact hP
    · rw [if_pos (by omega)] at hP; exact hP
  · refine sX6_loudOf_74 _ _ _ _ _ ?_
    simp only [tX6_loudOf_74, w_ic, w_lc, w_lds, w_ild, w_lld, w_ald, w_ist, w_lst, w_ast, w_iinc, w_iadd, w_isub, w_imul, w_idiv, w_irem, w_iand, w_ior, w_ixor, w_ishl, w_ishr, w_iushr, w_ineg, w_ladd, w_lsub, w_lmul, w_ldiv, w_lrem, w_lcmp, w_i2l, w_l2i, w_dup, w_pop, w_dup2, w_ieq, w_zeq, w_ine, w_zne, w_ilt, w_zlt, w_ige, w_zge, w_igt, w_zgt, w_ile, w_zle, w_cut, w_tsw, zsw, w_iret, w_zret, w_lret, w_vret, w_nret, w_getI, w_getJ, w_getR, w_putI, w_putZ, w_putJ, w_iald, w_zald, w_iast, w_zast, w_alen, w_sI, w_sJ, w_sV, w_vI, w_vJ, w_vV, w_tI, w_mmax, w_mmin, w_mabs, w_lmax, w_acopy, gL, sL, kl_i, kl_l, kl_r, kl_s, kl_m, qI_i, qJ_l, qA_r, qA_s, pI_i, pJ_l, pA_r, pS_s, pM_m, pV_v, c1_i, c1_r, c1_s, c1_m, cS_0, cS_i, cS_l, cS_r, cS_s, cS_m, pN, z_rc_r, zE1, zE2, zE3, true_and, and_true, Nat.zero_add, Nat.reduceAdd, Nat.reduceLeDiff, true_or, or_true, Int.reduceLE, Int.reduceLT, zcmp_l, zcmp_g, zcmp_e, zcmp_le, mo, mf0, mz0, mf1, mz1, mf2, mz2, mf6, mz6, mf10, mz10, mf11, mz11, mf12, mz12, mf13, mz13, mf14, mz14, mf16, mz16, mf17, mz17, mf18, mz18, mf19, mz19, mi3, mi7, mi8, mi9, mi15, mi4, mi5, mi20, ma125, mn125, ma126, mn126, ma127, mn127, ma128, mn128, ma129, mn129, ma130, mn130, ma131, mn131, ma132, mn132, ma133, mn133, ma134, mn134, ma135, mn135, ma136, mn136, ma137, mn137]
    rw [if_neg (by omega), if_neg (by omega), if_neg (by omega), if_neg (by omega), if_pos (by omega)] at hP
    exact m_slipper h0 h1 ⟨by omega, hP⟩
  · refine sX6_loudOf_81 _ _ _ _ _ ?_
    simp only [tX6_loudOf_81, w_ic, w_lc, w_lds, w_ild, w_lld, w_ald, w_ist, w_lst, w_ast, w_iinc, w_iadd, w_isub, w_imul, w_idiv, w_irem, w_iand, w_ior, w_ixor, w_ishl, w_ishr, w_iushr, w_ineg, w_ladd, w_lsub, w_lmul, w_ldiv, w_lrem, w_lcmp, w_i2l, w_l2i, w_dup, w_pop, w_dup2, w_ieq, w_zeq, w_ine, w_zne, w_ilt, w_zlt, w_ige, w_zge, w_igt, w_zgt, w_ile, w_zle, w_cut, w_tsw, zsw, w_iret, w_zret, w_lret, w_vret, w_nret, w_getI, w_getJ, w_getR, w_putI, w_putZ, w_putJ, w_iald, w_zald, w_iast, w_zast, w_alen, w_sI, w_sJ, w_sV, w_vI, w_vJ, w_vV, w_tI, w_mmax, w_mmin, w_mabs, w_lmax, w_acopy, gL, sL, kl_i, kl_l, kl_r, kl_s, kl_m, qI_i, qJ_l, qA_r, qA_s, pI_i, pJ_l, pA_r, pS_s, pM_m, pV_v, c1_i, c1_r, c1_s, c1_m, cS_0, cS_i, cS_l, cS_r, cS_s, cS_m, pN, z_rc_r, zE1, zE2, zE3, true_and, and_true, Nat.zero_add, Nat.reduceAdd, Nat.reduceLeDiff, true_or, or_true, Int.reduceLE, Int.reduceLT, zcmp_l, zcmp_g, zcmp_e, zcmp_le, mo, mf0, mz0, mf1, mz1, mf2, mz2, mf6, mz6, mf10, mz10, mf11, mz11, mf12, mz12, mf13, mz13, mf14, mz14, mf16, mz16, mf17, mz17, mf18, mz18, mf19, mz19, mi3, mi7, mi8, mi9, mi15, mi4, mi5, mi20, ma125, mn125, ma126, mn126, ma127, mn127, ma128, mn128, ma129, mn129, ma130, mn130, ma131, mn131, ma132, mn132, ma133, mn133, ma134, mn134, ma135, mn135, ma136, mn136, ma137, mn137]
    rw [if_neg (by omega), if_neg (by omega), if_neg (by omega), if_neg (by omega), if_neg (by omega)] at hP
    refine ⟨m0, fun q => m_boot h0 h1 ?_, fun q => m_boot h0 h1 ⟨⟨by omega, by omega⟩, ?_⟩⟩
    · rw [if_pos (by omega)] at hP; exact hP
    · rw [if_neg (by omega)] at hP
      rw [show zSl f + 2 - 1 = zSl f + 1 by omega]
      exact hP
  · refine sX6_loudOf_102 _ _ _ _ _ ?_
    simp only [tX6_loudOf_102, w_ic, w_lc, w_lds, w_ild, w_lld, w_ald, w_ist, w_lst, w_ast, w_iinc, w_iadd, w_isub, w_imul, w_idiv, w_irem, w_iand, w_ior, w_ixor, w_ishl, w_ishr, w_iushr, w_ineg, w_ladd, w_lsub, w_lmul, w_ldiv, w_lrem, w_lcmp, w_i2l, w_l2i, w_dup, w_pop, w_dup2, w_ieq, w_zeq, w_ine, w_zne, w_ilt, w_zlt, w_ige, w_zge, w_igt, w_zgt, w_ile, w_zle, w_cut, w_tsw, zsw, w_iret, w_zret, w_lret, w_vret, w_nret, w_getI, w_getJ, w_getR, w_putI, w_putZ, w_putJ, w_iald, w_zald, w_iast, w_zast, w_alen, w_sI, w_sJ, w_sV, w_vI, w_vJ, w_vV, w_tI, w_mmax, w_mmin, w_mabs, w_lmax, w_acopy, gL, sL, kl_i, kl_l, kl_r, kl_s, kl_m, qI_i, qJ_l, qA_r, qA_s, pI_i, pJ_l, pA_r, pS_s, pM_m, pV_v, c1_i, c1_r, c1_s, c1_m, cS_0, cS_i, cS_l, cS_r, cS_s, cS_m, pN, z_rc_r, zE1, zE2, zE3, true_and, and_true, Nat.zero_add, Nat.reduceAdd, Nat.reduceLeDiff, true_or, or_true, Int.reduceLE, Int.reduceLT, zcmp_l, zcmp_g, zcmp_e, zcmp_le, mo, mf0, mz0, mf1, mz1, mf2, mz2, mf6, mz6, mf10, mz10, mf11, mz11, mf12, mz12, mf13, mz13, mf14, mz14, mf16, mz16, mf17, mz17, mf18, mz18, mf19, mz19, mi3, mi7, mi8, mi9, mi15, mi4, mi5, mi20, ma125, mn125, ma126, mn126, ma127, mn127, ma128, mn128, ma129, mn129, ma130, mn130, ma131, mn131, ma132, mn132, ma133, mn133, ma134, mn134, ma135, mn135, ma136, mn136, ma137, mn137]
    rw [if_pos (by omega)] at hP
    exact m_slipper h0 h1 hP
theorem m_light {x d : Int} {D : Mem} {P : Int → Mem → Prop} (h0 : 0 ≤ x) (h1 : x ≤ 1000) (h2 : 0 ≤ d) (h3 : d ≤ 1000) (hP : P (zLi x d) D) : zC miX6_light [zi x, zi d] D P := by
  refine e_X6_light ?_
  simp only [tX6_light_0, w_ic, w_lc, w_lds, w_ild, w_lld, w_ald, w_ist, w_lst, w_ast, w_iinc, w_iadd, w_isub, w_imul, w_idiv, w_irem, w_iand, w_ior, w_ixor, w_ishl, w_ishr, w_iushr, w_ineg, w_ladd, w_lsub, w_lmul, w_ldiv, w_lrem, w_lcmp, w_i2l, w_l2i, w_dup, w_pop, w_dup2, w_ieq, w_zeq, w_ine, w_zne, w_ilt, w_zlt, w_ige, w_zge, w_igt, w_zgt, w_ile, w_zle, w_cut, w_tsw, zsw, w_iret, w_zret, w_lret, w_vret, w_nret, w_getI, w_getJ, w_getR, w_putI, w_putZ, w_putJ, w_iald, w_zald, w_iast, w_zast, w_alen, w_sI, w_sJ, w_sV, w_vI, w_vJ, w_vV, w_tI, w_mmax, w_mmin, w_mabs, w_lmax, w_acopy, gL, sL, kl_i, kl_l, kl_r, kl_s, kl_m, qI_i, qJ_l, qA_r, qA_s, pI_i, pJ_l, pA_r, pS_s, pM_m, pV_v, c1_i, c1_r, c1_s, c1_m, cS_0, cS_i, cS_l, cS_r, cS_s, cS_m, pN, z_rc_r, zE1, zE2, zE3, true_and, and_true, Nat.zero_add, Nat.reduceAdd, Nat.reduceLeDiff, true_or, or_true, Int.reduceLE, Int.reduceLT, zcmp_l, zcmp_g, zcmp_e, zcmp_le, mo, mf0, mz0, mf1, mz1, mf2, mz2, mf6, mz6, mf10, mz10, mf11, mz11, mf12, mz12, mf13, mz13, mf14, mz14, mf16, mz16, mf17, mz17, mf18, mz18, mf19, mz19, mi3, mi7, mi8, mi9, mi15, mi4, mi5, mi20, ma125, mn125, ma126, mn126, ma127, mn127, ma128, mn128, ma129, mn129, ma130, mn130, ma131, mn131, ma132, mn132, ma133, mn133, ma134, mn134, ma135, mn135, ma136, mn136, ma137, mn137]
  unfold zLi at hP
  refine ⟨fun h => ⟨⟨by omega, by omega⟩, ?_⟩, fun h => ⟨⟨by omega, by omega⟩, ⟨by omega, by omega⟩, ?_⟩⟩
  · rw [if_neg (by omega)] at hP; exact hP
  · rw [if_pos (by omega)] at hP; exact hP
theorem m_deaf {x d : Int} {D : Mem} {P : Int → Mem → Prop} (h0 : 0 ≤ x) (h1 : x ≤ 1000) (h2 : 0 ≤ d) (h3 : d ≤ 1000) (hP : P (zDe x d) D) : zC miX6_deaf [zi x, zi d] D P := by
  refine e_X6_deaf ?_
  simp only [tX6_deaf_0, w_ic, w_lc, w_lds, w_ild, w_lld, w_ald, w_ist, w_lst, w_ast, w_iinc, w_iadd, w_isub, w_imul, w_idiv, w_irem, w_iand, w_ior, w_ixor, w_ishl, w_ishr, w_iushr, w_ineg, w_ladd, w_lsub, w_lmul, w_ldiv, w_lrem, w_lcmp, w_i2l, w_l2i, w_dup, w_pop, w_dup2, w_ieq, w_zeq, w_ine, w_zne, w_ilt, w_zlt, w_ige, w_zge, w_igt, w_zgt, w_ile, w_zle, w_cut, w_tsw, zsw, w_iret, w_zret, w_lret, w_vret, w_nret, w_getI, w_getJ, w_getR, w_putI, w_putZ, w_putJ, w_iald, w_zald, w_iast, w_zast, w_alen, w_sI, w_sJ, w_sV, w_vI, w_vJ, w_vV, w_tI, w_mmax, w_mmin, w_mabs, w_lmax, w_acopy, gL, sL, kl_i, kl_l, kl_r, kl_s, kl_m, qI_i, qJ_l, qA_r, qA_s, pI_i, pJ_l, pA_r, pS_s, pM_m, pV_v, c1_i, c1_r, c1_s, c1_m, cS_0, cS_i, cS_l, cS_r, cS_s, cS_m, pN, z_rc_r, zE1, zE2, zE3, true_and, and_true, Nat.zero_add, Nat.reduceAdd, Nat.reduceLeDiff, true_or, or_true, Int.reduceLE, Int.reduceLT, zcmp_l, zcmp_g, zcmp_e, zcmp_le, mo, mf0, mz0, mf1, mz1, mf2, mz2, mf6, mz6, mf10, mz10, mf11, mz11, mf12, mz12, mf13, mz13, mf14, mz14, mf16, mz16, mf17, mz17, mf18, mz18, mf19, mz19, mi3, mi7, mi8, mi9, mi15, mi4, mi5, mi20, ma125, mn125, ma126, mn126, ma127, mn127, ma128, mn128, ma129, mn129, ma130, mn130, ma131, mn131, ma132, mn132, ma133, mn133, ma134, mn134, ma135, mn135, ma136, mn136, ma137, mn137]
  unfold zDe at hP
  refine ⟨⟨by omega, by omega⟩, fun h => ⟨⟨by omega, by omega⟩, ?_⟩, fun h => ⟨⟨by omega, by omega⟩, by omega, ?_⟩⟩
  · rw [if_neg (by omega)] at hP; exact hP
  · rw [if_pos (by omega)] at hP; exact hP
theorem m_heardOf {k x d : Int} {D : Mem} {P : Int → Mem → Prop} (k0 : 0 ≤ k) (k1 : k < 6) (h0 : 0 ≤ x) (h1 : x ≤ 1000) (h2 : 0 ≤ d) (h3 : d ≤ 1000) (hP : P (zHe k x d) D) : zC miX6_heardOf [zi k, zi x, zi d] D P := by
  have hl : ([36, 42, 48, 63, 71] : List Nat).length = 5 := rfl
  have b1 := zHe_b (k := 1) h0 h1 h2 h3
  have b2 : zLi x d = zHe 1 x d := rfl
  unfold zHe at hP
  refine e_X6_heardOf ?_
  simp only [tX6_heardOf_0, w_ic, w_lc, w_lds, w_ild, w_lld, w_ald, w_ist, w_lst, w_ast, w_iinc, w_iadd, w_isub, w_imul, w_idiv, w_irem, w_iand, w_ior, w_ixor, w_ishl, w_ishr, w_iushr, w_ineg, w_ladd, w_lsub, w_lmul, w_ldiv, w_lrem, w_lcmp, w_i2l, w_l2i, w_dup, w_pop, w_dup2, w_ieq, w_zeq, w_ine, w_zne, w_ilt, w_zlt, w_ige, w_zge, w_igt, w_zgt, w_ile, w_zle, w_cut, w_tsw, zsw, w_iret, w_zret, w_lret, w_vret, w_nret, w_getI, w_getJ, w_getR, w_putI, w_putZ, w_putJ, w_iald, w_zald, w_iast, w_zast, w_alen, w_sI, w_sJ, w_sV, w_vI, w_vJ, w_vV, w_tI, w_mmax, w_mmin, w_mabs, w_lmax, w_acopy, gL, sL, kl_i, kl_l, kl_r, kl_s, kl_m, qI_i, qJ_l, qA_r, qA_s, pI_i, pJ_l, pA_r, pS_s, pM_m, pV_v, c1_i, c1_r, c1_s, c1_m, cS_0, cS_i, cS_l, cS_r, cS_s, cS_m, pN, z_rc_r, zE1, zE2, zE3, true_and, and_true, Nat.zero_add, Nat.reduceAdd, Nat.reduceLeDiff, true_or, or_true, Int.reduceLE, Int.reduceLT, zcmp_l, zcmp_g, zcmp_e, zcmp_le, mo, mf0, mz0, mf1, mz1, mf2, mz2, mf6, mz6, mf10, mz10, mf11, mz11, mf12, mz12, mf13, mz13, mf14, mz14, mf16, mz16, mf17, mz17, mf18, mz18, mf19, mz19, mi3, mi7, mi8, mi9, mi15, mi4, mi5, mi20, ma125, mn125, ma126, mn126, ma127, mn127, ma128, mn128, ma129, mn129, ma130, mn130, ma131, mn131, ma132, mn132, ma133, mn133, ma134, mn134, ma135, mn135, ma136, mn136, ma137, mn137]
  refine ⟨⟨fun h => ?_, fun h => ?_, fun h => ?_, fun h => ?_, fun h => ?_⟩, fun h => ?_⟩
  · refine sX6_heardOf_36 _ _ _ _ _ ?_
    simp only [tX6_heardOf_36, w_ic, w_lc, w_lds, w_ild, w_lld, w_ald, w_ist, w_lst, w_ast, w_iinc, w_iadd, w_isub, w_imul, w_idiv, w_irem, w_iand, w_ior, w_ixor, w_ishl, w_ishr, w_iushr, w_ineg, w_ladd, w_lsub, w_lmul, w_ldiv, w_lrem, w_lcmp, w_i2l, w_l2i, w_dup, w_pop, w_dup2, w_ieq, w_zeq, w_ine, w_zne, w_ilt, w_zlt, w_ige, w_zge, w_igt, w_zgt, w_ile, w_zle, w_cut, w_tsw, zsw, w_iret, w_zret, w_lret, w_vret, w_nret, w_getI, w_getJ, w_getR, w_putI, w_putZ, w_putJ, w_iald, w_zald, w_iast, w_zast, w_alen, w_sI, w_sJ, w_sV, w_vI, w_vJ, w_vV, w_tI, w_mmax, w_mmin, w_mabs, w_lmax, w_acopy, gL, sL, kl_i, kl_l, kl_r, kl_s, kl_m, qI_i, qJ_l, qA_r, qA_s, pI_i, pJ_l, pA_r, pS_s, pM_m, pV_v, c1_i, c1_r, c1_s, c1_m, cS_0, cS_i, cS_l, cS_r, cS_s, cS_m, pN, z_rc_r, zE1, zE2, zE3, true_and, and_true, Nat.zero_add, Nat.reduceAdd, Nat.reduceLeDiff, true_or, or_true, Int.reduceLE, Int.reduceLT, zcmp_l, zcmp_g, zcmp_e, zcmp_le, mo, mf0, mz0, mf1, mz1, mf2, mz2, mf6, mz6, mf10, mz10, mf11, mz11, mf12, mz12, mf13, mz13, mf14, mz14, mf16, mz16, mf17, mz17, mf18, mz18, mf19, mz19, mi3, mi7, mi8, mi9, mi15, mi4, mi5, mi20, ma125, mn125, ma126, mn126, ma127, mn127, ma128, mn128, ma129, mn129, ma130, mn130, ma131, mn131, ma132, mn132, ma133, mn133, ma134, mn134, ma135, mn135, ma136, mn136, ma137, mn137]
    rw [if_neg (by omega), if_pos (by omega)] at hP
    exact m_light h0 h1 h2 h3 hP
  · refine sX6_heardOf_42 _ _ _ _ _ ?_
    simp only [tX6_heardOf_42, w_ic, w_lc, w_lds, w_ild, w_lld, w_ald, w_ist, w_lst, w_ast, w_iinc, w_iadd, w_isub, w_imul, w_idiv, w_irem, w_iand, w_ior, w_ixor, w_ishl, w_ishr, w_iushr, w_ineg, w_ladd, w_lsub, w_lmul, w_ldiv, w_lrem, w_lcmp, w_i2l, w_l2i, w_dup, w_pop, w_dup2, w_ieq, w_zeq, w_ine, w_zne, w_ilt, w_zlt, w_ige, w_zge, w_igt, w_zgt, w_ile, w_zle, w_cut, w_tsw, zsw, w_iret, w_zret, w_lret, w_vret, w_nret, w_getI, w_getJ, w_getR, w_putI, w_putZ, w_putJ, w_iald, w_zald, w_iast, w_zast, w_alen, w_sI, w_sJ, w_sV, w_vI, w_vJ, w_vV, w_tI, w_mmax, w_mmin, w_mabs, w_lmax, w_acopy, gL, sL, kl_i, kl_l, kl_r, kl_s, kl_m, qI_i, qJ_l, qA_r, qA_s, pI_i, pJ_l, pA_r, pS_s, pM_m, pV_v, c1_i, c1_r, c1_s, c1_m, cS_0, cS_i, cS_l, cS_r, cS_s, cS_m, pN, z_rc_r, zE1, zE2, zE3, true_and, and_true, Nat.zero_add, Nat.reduceAdd, Nat.reduceLeDiff, true_or, or_true, Int.reduceLE, Int.reduceLT, zcmp_l, zcmp_g, zcmp_e, zcmp_le, mo, mf0, mz0, mf1, mz1, mf2, mz2, mf6, mz6, mf10, mz10, mf11, mz11, mf12, mz12, mf13, mz13, mf14, mz14, mf16, mz16, mf17, mz17, mf18, mz18, mf19, mz19, mi3, mi7, mi8, mi9, mi15, mi4, mi5, mi20, ma125, mn125, ma126, mn126, ma127, mn127, ma128, mn128, ma129, mn129, ma130, mn130, ma131, mn131, ma132, mn132, ma133, mn133, ma134, mn134, ma135, mn135, ma136, mn136, ma137, mn137]
    rw [if_neg (by omega), if_neg (by omega), if_pos (by omega)] at hP
    exact m_deaf h0 h1 h2 h3 hP
  · refine sX6_heardOf_48 _ _ _ _ _ ?_
    simp only [tX6_heardOf_48, w_ic, w_lc, w_lds, w_ild, w_lld, w_ald, w_ist, w_lst, w_ast, w_iinc, w_iadd, w_isub, w_imul, w_idiv, w_irem, w_iand, w_ior, w_ixor, w_ishl, w_ishr, w_iushr, w_ineg, w_ladd, w_lsub, w_lmul, w_ldiv, w_lrem, w_lcmp, w_i2l, w_l2i, w_dup, w_pop, w_dup2, w_ieq, w_zeq, w_ine, w_zne, w_ilt, w_zlt, w_ige, w_zge, w_igt, w_zgt, w_ile, w_zle, w_cut, w_tsw, zsw, w_iret, w_zret, w_lret, w_vret, w_nret, w_getI, w_getJ, w_getR, w_putI, w_putZ, w_putJ, w_iald, w_zald, w_iast, w_zast, w_alen, w_sI, w_sJ, w_sV, w_vI, w_vJ, w_vV, w_tI, w_mmax, w_mmin, w_mabs, w_lmax, w_acopy, gL, sL, kl_i, kl_l, kl_r, kl_s, kl_m, qI_i, qJ_l, qA_r, qA_s, pI_i, pJ_l, pA_r, pS_s, pM_m, pV_v, c1_i, c1_r, c1_s, c1_m, cS_0, cS_i, cS_l, cS_r, cS_s, cS_m, pN, z_rc_r, zE1, zE2, zE3, true_and, and_true, Nat.zero_add, Nat.reduceAdd, Nat.reduceLeDiff, true_or, or_true, Int.reduceLE, Int.reduceLT, zcmp_l, zcmp_g, zcmp_e, zcmp_le, mo, mf0, mz0, mf1, mz1, mf2, mz2, mf6, mz6, mf10, mz10, mf11, mz11, mf12, mz12, mf13, mz13, mf14, mz14, mf16, mz16, mf17, mz17, mf18, mz18, mf19, mz19, mi3, mi7, mi8, mi9, mi15, mi4, mi5, mi20, ma125, mn125, ma126, mn126, ma127, mn127, ma128, mn128, ma129, mn129, ma130, mn130, ma131, mn131, ma132, mn132, ma133, mn133, ma134, mn134, ma135, mn135, ma136, mn136, ma137, mn137]
    rw [if_neg (by omega), if_neg (by omega), if_neg (by omega), if_pos (by omega)] at hP
    refine ⟨fun q => m_light h0 h1 h2 h3 ?_, fun q => ?_⟩
    · rw [if_neg (by omega)] at hP; exact hP
    · rw [if_pos (by omega)] at hP; exact hP
  · refine sX6_heardOf_63 _ _ _ _ _ ?_
    simp only [tX6_heardOf_63, w_ic, w_lc, w_lds, w_ild, w_lld, w_ald, w_ist, w_lst, w_ast, w_iinc, w_iadd, w_isub, w_imul, w_idiv, w_irem, w_iand, w_ior, w_ixor, w_ishl, w_ishr, w_iushr, w_ineg, w_ladd, w_lsub, w_lmul, w_ldiv, w_lrem, w_lcmp, w_i2l, w_l2i, w_dup, w_pop, w_dup2, w_ieq, w_zeq, w_ine, w_zne, w_ilt, w_zlt, w_ige, w_zge, w_igt, w_zgt, w_ile, w_zle, w_cut, w_tsw, zsw, w_iret, w_zret, w_lret, w_vret, w_nret, w_getI, w_getJ, w_getR, w_putI, w_putZ, w_putJ, w_iald, w_zald, w_iast, w_zast, w_alen, w_sI, w_sJ, w_sV, w_vI, w_vJ, w_vV, w_tI, w_mmax, w_mmin, w_mabs, w_lmax, w_acopy, gL, sL, kl_i, kl_l, kl_r, kl_s, kl_m, qI_i, qJ_l, qA_r, qA_s, pI_i, pJ_l, pA_r, pS_s, pM_m, pV_v, c1_i, c1_r, c1_s, c1_m, cS_0, cS_i, cS_l, cS_r, cS_s, cS_m, pN, z_rc_r, zE1, zE2, zE3, true_and, and_true, Nat.zero_add, Nat.reduceAdd, Nat.reduceLeDiff, true_or, or_true, Int.reduceLE, Int.reduceLT, zcmp_l, zcmp_g, zcmp_e, zcmp_le, mo, mf0, mz0, mf1, mz1, mf2, mz2, mf6, mz6, mf10, mz10, mf11, mz11, mf12, mz12, mf13, mz13, mf14, mz14, mf16, mz16, mf17, mz17, mf18, mz18, mf19, mz19, mi3, mi7, mi8, mi9, mi15, mi4, mi5, mi20, ma125, mn125, ma126, mn126, ma127, mn127, ma128, mn128, ma129, mn129, ma130, mn130, ma131, mn131, ma132, mn132, ma133, mn133, ma134, mn134, ma135, mn135, ma136, mn136, ma137, mn137]
    rw [if_neg (by omega), if_neg (by omega), if_neg (by omega), if_neg (by omega), if_pos (by omega)] at hP
    exact m_light h0 h1 h2 h3 ⟨⟨by omega, by omega⟩, hP⟩
  · refine sX6_heardOf_71 _ _ _ _ _ ?_
    simp only [tX6_heardOf_71, w_ic, w_lc, w_lds, w_ild, w_lld, w_ald, w_ist, w_lst, w_ast, w_iinc, w_iadd, w_isub, w_imul, w_idiv, w_irem, w_iand, w_ior, w_ixor, w_ishl, w_ishr, w_iushr, w_ineg, w_ladd, w_lsub, w_lmul, w_ldiv, w_lrem, w_lcmp, w_i2l, w_l2i, w_dup, w_pop, w_dup2, w_ieq, w_zeq, w_ine, w_zne, w_ilt, w_zlt, w_ige, w_zge, w_igt, w_zgt, w_ile, w_zle, w_cut, w_tsw, zsw, w_iret, w_zret, w_lret, w_vret, w_nret, w_getI, w_getJ, w_getR, w_putI, w_putZ, w_putJ, w_iald, w_zald, w_iast, w_zast, w_alen, w_sI, w_sJ, w_sV, w_vI, w_vJ, w_vV, w_tI, w_mmax, w_mmin, w_mabs, w_lmax, w_acopy, gL, sL, kl_i, kl_l, kl_r, kl_s, kl_m, qI_i, qJ_l, qA_r, qA_s, pI_i, pJ_l, pA_r, pS_s, pM_m, pV_v, c1_i, c1_r, c1_s, c1_m, cS_0, cS_i, cS_l, cS_r, cS_s, cS_m, pN, z_rc_r, zE1, zE2, zE3, true_and, and_true, Nat.zero_add, Nat.reduceAdd, Nat.reduceLeDiff, true_or, or_true, Int.reduceLE, Int.reduceLT, zcmp_l, zcmp_g, zcmp_e, zcmp_le, mo, mf0, mz0, mf1, mz1, mf2, mz2, mf6, mz6, mf10, mz10, mf11, mz11, mf12, mz12, mf13, mz13, mf14, mz14, mf16, mz16, mf17, mz17, mf18, mz18, mf19, mz19, mi3, mi7, mi8, mi9, mi15, mi4, mi5, mi20, ma125, mn125, ma126, mn126, ma127, mn127, ma128, mn128, ma129, mn129, ma130, mn130, ma131, mn131, ma132, mn132, ma133, mn133, ma134, mn134, ma135, mn135, ma136, mn136, ma137, mn137]
    rw [if_neg (by omega), if_neg (by omega), if_neg (by omega), if_neg (by omega), if_neg (by omega)] at hP
    refine m_deaf h0 h1 h2 h3 ⟨fun q => m_deaf h0 h1 h2 h3 ?_, fun q => ?_⟩
    · rw [if_neg (by omega)] at hP; exact hP
    · rw [if_pos (by omega)] at hP; exact hP
  · refine sX6_heardOf_90 _ _ _ _ _ ?_
    simp only [tX6_heardOf_90, w_ic, w_lc, w_lds, w_ild, w_lld, w_ald, w_ist, w_lst, w_ast, w_iinc, w_iadd, w_isub, w_imul, w_idiv, w_irem, w_iand, w_ior, w_ixor, w_ishl, w_ishr, w_iushr, w_ineg, w_ladd, w_lsub, w_lmul, w_ldiv, w_lrem, w_lcmp, w_i2l, w_l2i, w_dup, w_pop, w_dup2, w_ieq, w_zeq, w_ine, w_zne, w_ilt, w_zlt, w_ige, w_zge, w_igt, w_zgt, w_ile, w_zle, w_cut, w_tsw, zsw, w_iret, w_zret, w_lret, w_vret, w_nret, w_getI, w_getJ, w_getR, w_putI, w_putZ, w_putJ, w_iald, w_zald, w_iast, w_zast, w_alen, w_sI, w_sJ, w_sV, w_vI, w_vJ, w_vV, w_tI, w_mmax, w_mmin, w_mabs, w_lmax, w_acopy, gL, sL, kl_i, kl_l, kl_r, kl_s, kl_m, qI_i, qJ_l, qA_r, qA_s, pI_i, pJ_l, pA_r, pS_s, pM_m, pV_v, c1_i, c1_r, c1_s, c1_m, cS_0, cS_i, cS_l, cS_r, cS_s, cS_m, pN, z_rc_r, zE1, zE2, zE3, true_and, and_true, Nat.zero_add, Nat.reduceAdd, Nat.reduceLeDiff, true_or, or_true, Int.reduceLE, Int.reduceLT, zcmp_l, zcmp_g, zcmp_e, zcmp_le, mo, mf0, mz0, mf1, mz1, mf2, mz2, mf6, mz6, mf10, mz10, mf11, mz11, mf12, mz12, mf13, mz13, mf14, mz14, mf16, mz16, mf17, mz17, mf18, mz18, mf19, mz19, mi3, mi7, mi8, mi9, mi15, mi4, mi5, mi20, ma125, mn125, ma126, mn126, ma127, mn127, ma128, mn128, ma129, mn129, ma130, mn130, ma131, mn131, ma132, mn132, ma133, mn133, ma134, mn134, ma135, mn135, ma136, mn136, ma137, mn137]
    rw [if_pos (by omega)] at hP
    exact ⟨⟨by omega, by omega⟩, hP⟩
theorem m_size {v : Int} {D : Mem} {P : Int → Mem → Prop} (h0 : -1000 ≤ v) (h1 : v ≤ 1000) (hP : P (zAb v) D) : zC miX6_size [zi v] D P := by
  refine e_X6_size ?_
  simp only [tX6_size_0, w_ic, w_lc, w_lds, w_ild, w_lld, w_ald, w_ist, w_lst, w_ast, w_iinc, w_iadd, w_isub, w_imul, w_idiv, w_irem, w_iand, w_ior, w_ixor, w_ishl, w_ishr, w_iushr, w_ineg, w_ladd, w_lsub, w_lmul, w_ldiv, w_lrem, w_lcmp, w_i2l, w_l2i, w_dup, w_pop, w_dup2, w_ieq, w_zeq, w_ine, w_zne, w_ilt, w_zlt, w_ige, w_zge, w_igt, w_zgt, w_ile, w_zle, w_cut, w_tsw, zsw, w_iret, w_zret, w_lret, w_vret, w_nret, w_getI, w_getJ, w_getR, w_putI, w_putZ, w_putJ, w_iald, w_zald, w_iast, w_zast, w_alen, w_sI, w_sJ, w_sV, w_vI, w_vJ, w_vV, w_tI, w_mmax, w_mmin, w_mabs, w_lmax, w_acopy, gL, sL, kl_i, kl_l, kl_r, kl_s, kl_m, qI_i, qJ_l, qA_r, qA_s, pI_i, pJ_l, pA_r, pS_s, pM_m, pV_v, c1_i, c1_r, c1_s, c1_m, cS_0, cS_i, cS_l, cS_r, cS_s, cS_m, pN, z_rc_r, zE1, zE2, zE3, true_and, and_true, Nat.zero_add, Nat.reduceAdd, Nat.reduceLeDiff, true_or, or_true, Int.reduceLE, Int.reduceLT, zcmp_l, zcmp_g, zcmp_e, zcmp_le, mo, mf0, mz0, mf1, mz1, mf2, mz2, mf6, mz6, mf10, mz10, mf11, mz11, mf12, mz12, mf13, mz13, mf14, mz14, mf16, mz16, mf17, mz17, mf18, mz18, mf19, mz19, mi3, mi7, mi8, mi9, mi15, mi4, mi5, mi20, ma125, mn125, ma126, mn126, ma127, mn127, ma128, mn128, ma129, mn129, ma130, mn130, ma131, mn131, ma132, mn132, ma133, mn133, ma134, mn134, ma135, mn135, ma136, mn136, ma137, mn137]
  unfold zAb at hP
  refine ⟨fun q => ?_, fun q => ⟨⟨by omega, by omega⟩, ?_⟩⟩
  · rw [if_neg (by omega)] at hP; exact hP
  · rw [if_pos (by omega)] at hP; exact hP
theorem m_apart {x y : Int} {D : Mem} {P : Int → Mem → Prop} (hx : inC x) (hy : inC y) (hP : P (zAp x y) D) : zC miX6_apart [zi x, zi y] D P := by
  have h1 := hx.1
  have h2 := hx.2
  have h3 := hy.1
  have h4 := hy.2
  unfold zAp at hP
  have b1 : -20 ≤ zAb (x / 4 - y / 4) ∧ zAb (x / 4 - y / 4) ≤ 20 := by unfold zAb; split <;> omega
  have b2 : -20 ≤ zAb (x % 4 - y % 4) ∧ zAb (x % 4 - y % 4) ≤ 20 := by unfold zAb; split <;> omega
  refine e_X6_apart ?_
  simp only [tX6_apart_0, w_ic, w_lc, w_lds, w_ild, w_lld, w_ald, w_ist, w_lst, w_ast, w_iinc, w_iadd, w_isub, w_imul, w_idiv, w_irem, w_iand, w_ior, w_ixor, w_ishl, w_ishr, w_iushr, w_ineg, w_ladd, w_lsub, w_lmul, w_ldiv, w_lrem, w_lcmp, w_i2l, w_l2i, w_dup, w_pop, w_dup2, w_ieq, w_zeq, w_ine, w_zne, w_ilt, w_zlt, w_ige, w_zge, w_igt, w_zgt, w_ile, w_zle, w_cut, w_tsw, zsw, w_iret, w_zret, w_lret, w_vret, w_nret, w_getI, w_getJ, w_getR, w_putI, w_putZ, w_putJ, w_iald, w_zald, w_iast, w_zast, w_alen, w_sI, w_sJ, w_sV, w_vI, w_vJ, w_vV, w_tI, w_mmax, w_mmin, w_mabs, w_lmax, w_acopy, gL, sL, kl_i, kl_l, kl_r, kl_s, kl_m, qI_i, qJ_l, qA_r, qA_s, pI_i, pJ_l, pA_r, pS_s, pM_m, pV_v, c1_i, c1_r, c1_s, c1_m, cS_0, cS_i, cS_l, cS_r, cS_s, cS_m, pN, z_rc_r, zE1, zE2, zE3, true_and, and_true, Nat.zero_add, Nat.reduceAdd, Nat.reduceLeDiff, true_or, or_true, Int.reduceLE, Int.reduceLT, zcmp_l, zcmp_g, zcmp_e, zcmp_le, mo, mf0, mz0, mf1, mz1, mf2, mz2, mf6, mz6, mf10, mz10, mf11, mz11, mf12, mz12, mf13, mz13, mf14, mz14, mf16, mz16, mf17, mz17, mf18, mz18, mf19, mz19, mi3, mi7, mi8, mi9, mi15, mi4, mi5, mi20, ma125, mn125, ma126, mn126, ma127, mn127, ma128, mn128, ma129, mn129, ma130, mn130, ma131, mn131, ma132, mn132, ma133, mn133, ma134, mn134, ma135, mn135, ma136, mn136, ma137, mn137]
  refine ⟨by omega, by omega, ⟨by omega, by omega⟩, m_size (by omega) (by omega) ⟨by omega, by omega, ⟨by omega, by omega⟩, m_size (by omega) (by omega) ⟨⟨by omega, by omega⟩, hP⟩⟩⟩
