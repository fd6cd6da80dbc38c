/-! ===== 35: digest, shy ===== -/
theorem zmix_eq {f g : Int → Int} {h : Int} : ∀ n : Nat, (∀ k : Int, 0 ≤ k → k < n → f k = g k) → zmix n h f = zmix n h g
  | 0, _ => rfl
  | n + 1, e => by
    show z64 (z64 (31 * zmix n h f) + f n) = z64 (z64 (31 * zmix n h g) + g n)
    rw [zmix_eq n (fun k k0 k1 => e k k0 (by omega)), e n (by omega) (by omega)]
theorem zmix_s {f : Int → Int} {h i : Int} (i0 : 0 ≤ i) : zmix (i + 1).toNat h f = z64 (z64 (31 * zmix i.toNat h f) + f i) := by
  rw [show (i + 1).toNat = i.toNat + 1 by omega]
  show z64 (z64 (31 * zmix i.toNat h f) + f (i.toNat : Int)) = _
  rw [Int.toNat_of_nonneg i0]
noncomputable def sDg (s : Mem) : Int :=
  let h0 := zmix 10 1601 (sHow s)
  let h1 := zmix (s 0 0 * 2).toNat h0 (fun j => s 0 (4 + 6 * (j % 2) + j / 2))
  let h2 := zmix (s 0 1 * 5).toNat h1 (fun j => s 0 (16 + 6 * (j % 5) + j / 5))
  let h3 := zmix (s 0 2 * 2).toNat h2 (fun j => s 0 (46 + 4 * (j % 2) + j / 2))
  let h4 := zmix (s 0 54 * 3).toNat h3 (fun j => s 0 (55 + j))
  let h5 := zmix (s 0 70 * 4).toNat h4 (fun j => s 0 (71 + j))
  let h6 := zmix (s 0 95 * 4).toNat h5 (fun j => s 0 (96 + j))
  let h7 := z64 (z64 (31 * h6) + s 4 6)
  z64 (z64 (31 * h7) + s 4 7)
theorem c_mixR {o r a lim wid : Nat} {n h : Int} {f : Int → Int → Int} {D : Mem} {P : Int → Mem → Prop} (hR : zRows o r a lim wid) (hD : zRD D o lim wid) (hp : zPc D o a wid n f) (hw : 0 < wid) (g : Int → Int) (hg : ∀ j : Int, 0 ≤ j → j < n * wid → g j = f (j / wid) (j % wid)) (hP : P (zmix (n * wid).toNat h g) D) : zC miX3_mixInto [zr o, zl h] D P := by
  refine c_Rows_mixInto hR hD ?_
  have n0 : 0 ≤ n := by rw [← hp.1]; exact hD.2.2.1
  have nw : 0 ≤ n * wid := Int.mul_nonneg n0 (by omega)
  rw [hp.1, zmix_eq (g := g) _ (fun j j0 j1 => ?_)]
  · exact hP
  · have j1' : j < n * wid := by omega
    rw [hg j j0 j1']
    have hwz : (0 : Int) < wid := by omega
    have h1 : 0 ≤ j / wid := Int.ediv_nonneg j0 (by omega)
    have h2 : j / wid < n := Int.ediv_lt_of_lt_mul hwz j1'
    have h3 := Int.emod_nonneg j (show (wid : Int) ≠ 0 by omega)
    have h4 := Int.emod_lt_of_pos j hwz
    have := hp.2 (j / wid) (j % wid) h1 h2 h3 h4
    rw [← this, Int.mul_comm, Int.mul_ediv_add_emod]
noncomputable def r_digest (s : Mem) : Int × Mem := (sDg s, s)
theorem v_digest {s : Mem} : cOK miX5_digest [zr 0] s (r_digest s) := by
  intro D P hC hP
  have h := hC.1.1
  have hf := hC.2.2.2.2
  have hP' : P (sDg s) D := hP D Fr.rfl hC
  unfold sDg at hP'
  have loop : ∀ (r : Nat) (i : Int), (10 - i).toNat = r → 0 ≤ i → i ≤ 10 → zW miX5_digest P 6 [zr 0, zl (zmix i.toNat 1601 (sHow s)), zm 1, zi i] D := by
    intro r
    induction r with
    | zero =>
      intro i hr i0 i1
      refine sX5_digest_6 _ _ _ _ _ ?_
      simp only [tX5_digest_6, w_ic, w_lc, w_lds, w_ild, w_lld, w_ald, w_ist, w_lst, w_ast, w_iinc, w_iadd, w_isub, w_imul, w_idiv, w_irem, w_iand, w_ior, w_ixor, w_ishl, w_ishr, w_iushr, w_ineg, w_ladd, w_lsub, w_lmul, w_ldiv, w_lrem, w_lcmp, w_i2l, w_l2i, w_dup, w_pop, w_dup2, w_ieq, w_zeq, w_ine, w_zne, w_ilt, w_zlt, w_ige, w_zge, w_igt, w_zgt, w_ile, w_zle, w_cut, w_tsw, zsw, w_iret, w_zret, w_lret, w_vret, w_nret, w_getI, w_getJ, w_getR, w_putI, w_putZ, w_putJ, w_iald, w_zald, w_iast, w_zast, w_alen, w_sI, w_sJ, w_sV, w_vI, w_vJ, w_vV, w_tI, w_mmax, w_mmin, w_mabs, w_lmax, w_acopy, gL, sL, kl_i, kl_l, kl_r, kl_s, kl_m, qI_i, qJ_l, qA_r, qA_s, pI_i, pJ_l, pA_r, pS_s, pM_m, pV_v, c1_i, c1_r, c1_s, c1_m, cS_0, cS_i, cS_l, cS_r, cS_s, cS_m, pN, z_rc_r, zE1, zE2, zE3, true_and, and_true, Nat.zero_add, Nat.reduceAdd, Nat.reduceLeDiff, true_or, or_true, q0, qp4, qp5, qp8, qp9, qf0, qz0, qf1, qz1, qf2, qz2, qf3, qz3, qf6, qz6, qf7, qz7, qf10, qz10, qf11, qz11, qf12, qz12, qf13, qz13, qf14, qz14, k1o, k1m, k1f0, k1z0, k1f1, k1z1, k1f2, k1z2, k1f3, k1z3, k1f4, k1z4, k1f5, k1z5, k1f6, k1z6, k1f7, k1z7, k1r0, k1r1, k1r2, k1r3, k1r4, k1r5, k1r6, k1w, k109, k109a, k109b, k109c, k109d, k109e, k109f, k109g, kr110, kr112, kr114, kr116, kr118, kr120, kr122]
      refine ⟨fun _ => ?_, fun q => absurd (by omega) q⟩
      rw [show i = 10 by omega]
      refine c_mixR bk1.r0 h.1.1 h.2.1.l (by decide) (fun j => s 0 (4 + 6 * (j % 2) + j / 2)) (fun j _ _ => rfl) ?_
      refine c_mixR bk1.r1 h.1.2.1 h.2.1.g (by decide) (fun j => s 0 (16 + 6 * (j % 5) + j / 5)) (fun j _ _ => rfl) ?_
      refine c_mixR bk1.r2 h.1.2.2.1 h.2.1.w (by decide) (fun j => s 0 (46 + 4 * (j % 2) + j / 2)) (fun j _ _ => rfl) ?_
      refine c_mixR bk1.r3 h.1.2.2.2.1 h.2.1.s (by decide) (fun j => s 0 (55 + j)) (fun j _ _ => ?_) ?_
      · show s 0 (55 + j) = s 0 (55 + 3 * (j / 3) + j % 3)
        rw [show 55 + 3 * (j / 3) + j % 3 = 55 + j by omega]
      refine c_mixR bk1.r4 h.1.2.2.2.2.1 h.2.1.n (by decide) (fun j => s 0 (71 + j)) (fun j _ _ => ?_) ?_
      · show s 0 (71 + j) = s 0 (71 + 4 * (j / 4) + j % 4)
        rw [show 71 + 4 * (j / 4) + j % 4 = 71 + j by omega]
      refine c_mixR bk1.r5 h.1.2.2.2.2.2.1 h.2.1.k (by decide) (fun j => s 0 (96 + j)) (fun j _ _ => ?_) ?_
      · show s 0 (96 + j) = s 0 (96 + 4 * (j / 4) + j % 4)
        rw [show 96 + 4 * (j / 4) + j % 4 = 96 + j by omega]
      rw [hf.1, hf.2]
      exact hP'
    | succ r ih =>
      intro i hr i0 i1
      have nx := ih (i + 1) (by omega) (by omega) (by omega)
      rw [zmix_s i0] at nx
      refine sX5_digest_6 _ _ _ _ _ ?_
      simp only [tX5_digest_6, w_ic, w_lc, w_lds, w_ild, w_lld, w_ald, w_ist, w_lst, w_ast, w_iinc, w_iadd, w_isub, w_imul, w_idiv, w_irem, w_iand, w_ior, w_ixor, w_ishl, w_ishr, w_iushr, w_ineg, w_ladd, w_lsub, w_lmul, w_ldiv, w_lrem, w_lcmp, w_i2l, w_l2i, w_dup, w_pop, w_dup2, w_ieq, w_zeq, w_ine, w_zne, w_ilt, w_zlt, w_ige, w_zge, w_igt, w_zgt, w_ile, w_zle, w_cut, w_tsw, zsw, w_iret, w_zret, w_lret, w_vret, w_nret, w_getI, w_getJ, w_getR, w_putI, w_putZ, w_putJ, w_iald, w_zald, w_iast, w_zast, w_alen, w_sI, w_sJ, w_sV, w_vI, w_vJ, w_vV, w_tI, w_mmax, w_mmin, w_mabs, w_lmax, w_acopy, gL, sL, kl_i, kl_l, kl_r, kl_s, kl_m, qI_i, qJ_l, qA_r, qA_s, pI_i, pJ_l, pA_r, pS_s, pM_m, pV_v, c1_i, c1_r, c1_s, c1_m, cS_0, cS_i, cS_l, cS_r, cS_s, cS_m, pN, z_rc_r, zE1, zE2, zE3, true_and, and_true, Nat.zero_add, Nat.reduceAdd, Nat.reduceLeDiff, true_or, or_true, q0, qp4, qp5, qp8, qp9, qf0, qz0, qf1, qz1, qf2, qz2, qf3, qz3, qf6, qz6, qf7, qz7, qf10, qz10, qf11, qz11, qf12, qz12, qf13, qz13, qf14, qz14, k1o, k1m, k1f0, k1z0, k1f1, k1z1, k1f2, k1z2, k1f3, k1z3, k1f4, k1z4, k1f5, k1z5, k1f6, k1z6, k1f7, k1z7, k1r0, k1r1, k1r2, k1r3, k1r4, k1r5, k1r6, k1w, k109, k109a, k109b, k109c, k109d, k109e, k109f, k109g, kr110, kr112, kr114, kr116, kr118, kr120, kr122]
      refine ⟨fun q => absurd q (by omega), fun _ => ?_⟩
      exact c_howMany hC i0 (by omega) ⟨⟨by omega, by omega⟩, nx⟩
  refine e_X5_digest ?_
  simp only [tX5_digest_0, w_ic, w_lc, w_lds, w_ild, w_lld, w_ald, w_ist, w_lst, w_ast, w_iinc, w_iadd, w_isub, w_imul, w_idiv, w_irem, w_iand, w_ior, w_ixor, w_ishl, w_ishr, w_iushr, w_ineg, w_ladd, w_lsub, w_lmul, w_ldiv, w_lrem, w_lcmp, w_i2l, w_l2i, w_dup, w_pop, w_dup2, w_ieq, w_zeq, w_ine, w_zne, w_ilt, w_zlt, w_ige, w_zge, w_igt, w_zgt, w_ile, w_zle, w_cut, w_tsw, zsw, w_iret, w_zret, w_lret, w_vret, w_nret, w_getI, w_getJ, w_getR, w_putI, w_putZ, w_putJ, w_iald, w_zald, w_iast, w_zast, w_alen, w_sI, w_sJ, w_sV, w_vI, w_vJ, w_vV, w_tI, w_mmax, w_mmin, w_mabs, w_lmax, w_acopy, gL, sL, kl_i, kl_l, kl_r, kl_s, kl_m, qI_i, qJ_l, qA_r, qA_s, pI_i, pJ_l, pA_r, pS_s, pM_m, pV_v, c1_i, c1_r, c1_s, c1_m, cS_0, cS_i, cS_l, cS_r, cS_s, cS_m, pN, z_rc_r, zE1, zE2, zE3, true_and, and_true, Nat.zero_add, Nat.reduceAdd, Nat.reduceLeDiff, true_or, or_true, q0, qp4, qp5, qp8, qp9, qf0, qz0, qf1, qz1, qf2, qz2, qf3, qz3, qf6, qz6, qf7, qz7, qf10, qz10, qf11, qz11, qf12, qz12, qf13, qz13, qf14, qz14, k1o, k1m, k1f0, k1z0, k1f1, k1z1, k1f2, k1z2, k1f3, k1z3, k1f4, k1z4, k1f5, k1z5, k1f6, k1z6, k1f7, k1z7, k1r0, k1r1, k1r2, k1r3, k1r4, k1r5, k1r6, k1w, k109, k109a, k109b, k109c, k109d, k109e, k109f, k109g, kr110, kr112, kr114, kr116, kr118, kr120, kr122]
  exact loop _ 0 rfl (by omega) (by omega)
noncomputable def sMe (a : Int → Int) (x y i j : Int) : Int := if zFst (sMt (sAt a x) (sAt a y) i j) 31 = -1 then 0 else 1
noncomputable def sGA (a : Int → Int) (x y i j : Int) : Int := 5 * sMe a x y i j - i / 3
noncomputable def sGB (a : Int → Int) (x y i j : Int) : Int := 5 - 5 * sMe a x y i j - j / 3
def sRs (a : Int → Int) (x y t : Int) : Prop := ∀ o, 0 ≤ o → o < 10 → sGA a x y o (t % 10) ≤ sGA a x y (t / 10) (t % 10) ∧ sGB a x y (t / 10) o ≤ sGB a x y (t / 10) (t % 10)
theorem sMe_b {a : Int → Int} {x y i j : Int} : 0 ≤ sMe a x y i j ∧ sMe a x y i j ≤ 1 := by unfold sMe; split <;> omega
noncomputable def sRn (a : Int → Int) (x y : Int) (n : Nat) : Int := zsum n (fun t => cIf (sRs a x y t) 1 0)
noncomputable def r_shy (s : Mem) (x y k : Int) : Int × Mem := cIf (zTwo s x y ∧ -1 ≤ k) (cIf (zFst (fun t => sRs (s 0) x y t ∧ sRn (s 0) x y t.toNat = k) 100 = -1) (cIf (k = -1) (sRn (s 0) x y 100, s) (-5, s)) (zFst (fun t => sRs (s 0) x y t ∧ sRn (s 0) x y t.toNat = k) 100, s)) (-10, sRf s 3)
def zMet (D : Mem) (a : Int → Int) (x y : Int) : Prop := ∀ i j, 0 ≤ i → i < 10 → 0 ≤ j → j < 10 → D 119 (10 * i + j) = sMe a x y i j
theorem c_fillMet {D s : Mem} {x y : Int} {P : Int → Mem → Prop} (hC : CS D s) (h : zTwo s x y) (hP : ∀ D', Fr 0 124 D D' → CS D' s → zMet D' (s 0) x y → P 0 D') : zC miX5_fillMet [zr 0, zi x, zi y] D P := by
  have i100 : ((100 : Nat) : Int) = 100 := rfl
  refine e_X5_fillMet ?_
  simp only [tX5_fillMet_0, w_ic, w_lc, w_lds, w_ild, w_lld, w_ald, w_ist, w_lst, w_ast, w_iinc, w_iadd, w_isub, w_imul, w_idiv, w_irem, w_iand, w_ior, w_ixor, w_ishl, w_ishr, w_iushr, w_ineg, w_ladd, w_lsub, w_lmul, w_ldiv, w_lrem, w_lcmp, w_i2l, w_l2i, w_dup, w_pop, w_dup2, w_ieq, w_zeq, w_ine, w_zne, w_ilt, w_zlt, w_ige, w_zge, w_igt, w_zgt, w_ile, w_zle, w_cut, w_tsw, zsw, w_iret, w_zret, w_lret, w_vret, w_nret, w_getI, w_getJ, w_getR, w_putI, w_putZ, w_putJ, w_iald, w_zald, w_iast, w_zast, w_alen, w_sI, w_sJ, w_sV, w_vI, w_vJ, w_vV, w_tI, w_mmax, w_mmin, w_mabs, w_lmax, w_acopy, gL, sL, kl_i, kl_l, kl_r, kl_s, kl_m, qI_i, qJ_l, qA_r, qA_s, pI_i, pJ_l, pA_r, pS_s, pM_m, pV_v, c1_i, c1_r, c1_s, c1_m, cS_0, cS_i, cS_l, cS_r, cS_s, cS_m, pN, z_rc_r, zE1, zE2, zE3, true_and, and_true, Nat.zero_add, Nat.reduceAdd, Nat.reduceLeDiff, true_or, or_true, q0, qp4, qp5, qp8, qp9, qf0, qz0, qf1, qz1, qf2, qz2, qf3, qz3, qf6, qz6, qf7, qz7, qf10, qz10, qf11, qz11, qf12, qz12, qf13, qz13, qf14, qz14, k1o, k1m, k1f0, k1z0, k1f1, k1z1, k1f2, k1z2, k1f3, k1z3, k1f4, k1z4, k1f5, k1z5, k1f6, k1z6, k1f7, k1z7, k1r0, k1r1, k1r2, k1r3, k1r4, k1r5, k1r6, k1w, k109, k109a, k109b, k109c, k109d, k109e, k109f, k109g, kr110, kr112, kr114, kr116, kr118, kr120, kr122]
  refine c_paths hC h.2.1.1 h.2.1.2 fun D1 d1 d2 d3 d4 => ?_
  refine c_paths2 d2 h.2.2.1 h.2.2.2 fun D2 d5 d6 d7 d8 => ?_
  have hf : ∀ m : Nat, m ≤ 60 → D2 115 m = sAt (s 0) x m := fun m hm => by
    rw [d7 115 (by decide) (by decide)]
    exact d4 m hm
  have outer : ∀ (r : Nat) (i : Int) (v : AV) (D3 : Mem), (10 - i).toNat = r → 0 ≤ i → i ≤ 10 → (∀ o, o ≠ 119 → D3 o = D2 o) → (∀ i' j, 0 ≤ i' → i' < i → 0 ≤ j → j < 10 → D3 119 (10 * i' + j) = sMe (s 0) x y i' j) → zW miX5_fillMet P 26 [zr 0, zi x, zi y, zi i, v] D3 := by
    intro r
    induction r with
    | zero =>
      intro i v D3 hr i0 i1 q1 q2
      refine sX5_fillMet_26 _ _ _ _ _ ?_
      simp only [tX5_fillMet_26, w_ic, w_lc, w_lds, w_ild, w_lld, w_ald, w_ist, w_lst, w_ast, w_iinc, w_iadd, w_isub, w_imul, w_idiv, w_irem, w_iand, w_ior, w_ixor, w_ishl, w_ishr, w_iushr, w_ineg, w_ladd, w_lsub, w_lmul, w_ldiv, w_lrem, w_lcmp, w_i2l, w_l2i, w_dup, w_pop, w_dup2, w_ieq, w_zeq, w_ine, w_zne, w_ilt, w_zlt, w_ige, w_zge, w_igt, w_zgt, w_ile, w_zle, w_cut, w_tsw, zsw, w_iret, w_zret, w_lret, w_vret, w_nret, w_getI, w_getJ, w_getR, w_putI, w_putZ, w_putJ, w_iald, w_zald, w_iast, w_zast, w_alen, w_sI, w_sJ, w_sV, w_vI, w_vJ, w_vV, w_tI, w_mmax, w_mmin, w_mabs, w_lmax, w_acopy, gL, sL, kl_i, kl_l, kl_r, kl_s, kl_m, qI_i, qJ_l, qA_r, qA_s, pI_i, pJ_l, pA_r, pS_s, pM_m, pV_v, c1_i, c1_r, c1_s, c1_m, cS_0, cS_i, cS_l, cS_r, cS_s, cS_m, pN, z_rc_r, zE1, zE2, zE3, true_and, and_true, Nat.zero_add, Nat.reduceAdd, Nat.reduceLeDiff, true_or, or_true, q0, qp4, qp5, qp8, qp9, qf0, qz0, qf1, qz1, qf2, qz2, qf3, qz3, qf6, qz6, qf7, qz7, qf10, qz10, qf11, qz11, qf12, qz12, qf13, qz13, qf14, qz14, k1o, k1m, k1f0, k1z0, k1f1, k1z1, k1f2, k1z2, k1f3, k1z3, k1f4, k1z4, k1f5, k1z5, k1f6, k1z6, k1f7, k1z7, k1r0, k1r1, k1r2, k1r3, k1r4, k1r5, k1r6, k1w, k109, k109a, k109b, k109c, k109d, k109e, k109f, k109g, kr110, kr112, kr114, kr116, kr118, kr120, kr122]
      refine ⟨fun _ => ?_, fun q => absurd (by omega) q⟩
      have f3 : Fr 114 124 D2 D3 := fun o ho => q1 o (by omega)
      exact hP D3 ((d1.trans d5).trans (f3.wide (by omega) (by omega))) (d6.scr f3) (fun i' j a0 a1 a2 a3 => q2 i' j a0 (by omega) a2 a3)
    | succ r ih =>
      intro i v D3 hr i0 i1 q1 q2
      refine sX5_fillMet_26 _ _ _ _ _ ?_
      simp only [tX5_fillMet_26, w_ic, w_lc, w_lds, w_ild, w_lld, w_ald, w_ist, w_lst, w_ast, w_iinc, w_iadd, w_isub, w_imul, w_idiv, w_irem, w_iand, w_ior, w_ixor, w_ishl, w_ishr, w_iushr, w_ineg, w_ladd, w_lsub, w_lmul, w_ldiv, w_lrem, w_lcmp, w_i2l, w_l2i, w_dup, w_pop, w_dup2, w_ieq, w_zeq, w_ine, w_zne, w_ilt, w_zlt, w_ige, w_zge, w_igt, w_zgt, w_ile, w_zle, w_cut, w_tsw, zsw, w_iret, w_zret, w_lret, w_vret, w_nret, w_getI, w_getJ, w_getR, w_putI, w_putZ, w_putJ, w_iald, w_zald, w_iast, w_zast, w_alen, w_sI, w_sJ, w_sV, w_vI, w_vJ, w_vV, w_tI, w_mmax, w_mmin, w_mabs, w_lmax, w_acopy, gL, sL, kl_i, kl_l, kl_r, kl_s, kl_m, qI_i, qJ_l, qA_r, qA_s, pI_i, pJ_l, pA_r, pS_s, pM_m, pV_v, c1_i, c1_r, c1_s, c1_m, cS_0, cS_i, cS_l, cS_r, cS_s, cS_m, pN, z_rc_r, zE1, zE2, zE3, true_and, and_true, Nat.zero_add, Nat.reduceAdd, Nat.reduceLeDiff, true_or, or_true, q0, qp4, qp5, qp8, qp9, qf0, qz0, qf1, qz1, qf2, qz2, qf3, qz3, qf6, qz6, qf7, qz7, qf10, qz10, qf11, qz11, qf12, qz12, qf13, qz13, qf14, qz14, k1o, k1m, k1f0, k1z0, k1f1, k1z1, k1f2, k1z2, k1f3, k1z3, k1f4, k1z4, k1f5, k1z5, k1f6, k1z6, k1f7, k1z7, k1r0, k1r1, k1r2, k1r3, k1r4, k1r5, k1r6, k1w, k109, k109a, k109b, k109c, k109d, k109e, k109f, k109g, kr110, kr112, kr114, kr116, kr118, kr120, kr122]
      refine ⟨fun q => absurd q (by omega), fun _ => ?_⟩
      have inner : ∀ (r : Nat) (j : Int) (D4 : Mem), (10 - j).toNat = r → 0 ≤ j → j ≤ 10 → (∀ o, o ≠ 119 → D4 o = D2 o) → (∀ i' j', 0 ≤ i' → (i' < i ∨ (i' = i ∧ j' < j)) → 0 ≤ j' → j' < 10 → D4 119 (10 * i' + j') = sMe (s 0) x y i' j') → zW miX5_fillMet P 35 [zr 0, zi x, zi y, zi i, zi j] D4 := by
        intro r
        induction r with
        | zero =>
          intro j D4 hr j0 j1 p1 p2
          refine sX5_fillMet_35 _ _ _ _ _ ?_
          simp only [tX5_fillMet_35, w_ic, w_lc, w_lds, w_ild, w_lld, w_ald, w_ist, w_lst, w_ast, w_iinc, w_iadd, w_isub, w_imul, w_idiv, w_irem, w_iand, w_ior, w_ixor, w_ishl, w_ishr, w_iushr, w_ineg, w_ladd, w_lsub, w_lmul, w_ldiv, w_lrem, w_lcmp, w_i2l, w_l2i, w_dup, w_pop, w_dup2, w_ieq, w_zeq, w_ine, w_zne, w_ilt, w_zlt, w_ige, w_zge, w_igt, w_zgt, w_ile, w_zle, w_cut, w_tsw, zsw, w_iret, w_zret, w_lret, w_vret, w_nret, w_getI, w_getJ, w_getR, w_putI, w_putZ, w_putJ, w_iald, w_zald, w_iast, w_zast, w_alen, w_sI, w_sJ, w_sV, w_vI, w_vJ, w_vV, w_tI, w_mmax, w_mmin, w_mabs, w_lmax, w_acopy, gL, sL, kl_i, kl_l, kl_r, kl_s, kl_m, qI_i, qJ_l, qA_r, qA_s, pI_i, pJ_l, pA_r, pS_s, pM_m, pV_v, c1_i, c1_r, c1_s, c1_m, cS_0, cS_i, cS_l, cS_r, cS_s, cS_m, pN, z_rc_r, zE1, zE2, zE3, true_and, and_true, Nat.zero_add, Nat.reduceAdd, Nat.reduceLeDiff, true_or, or_true, q0, qp4, qp5, qp8, qp9, qf0, qz0, qf1, qz1, qf2, qz2, qf3, qz3, qf6, qz6, qf7, qz7, qf10, qz10, qf11, qz11, qf12, qz12, qf13, qz13, qf14, qz14, k1o, k1m, k1f0, k1z0, k1f1, k1z1, k1f2, k1z2, k1f3, k1z3, k1f4, k1z4, k1f5, k1z5, k1f6, k1z6, k1f7, k1z7, k1r0, k1r1, k1r2, k1r3, k1r4, k1r5, k1r6, k1w, k109, k109a, k109b, k109c, k109d, k109e, k109f, k109g, kr110, kr112, kr114, kr116, kr118, kr120, kr122]
          refine ⟨fun _ => ⟨⟨by omega, by omega⟩, ?_⟩, fun q => absurd (by omega) q⟩
          exact ih (i + 1) _ D4 (by omega) (by omega) (by omega) p1 (fun i' j' a0 a1 a2 a3 => p2 i' j' a0 (by omega) a2 a3)
        | succ r ihr =>
          intro j D4 hr j0 j1 p1 p2
          have put : ∀ v : Int, v = sMe (s 0) x y i j → zC miX2_set [zr 118, zi (10 * i + j), zi v] D4 (fun _ D' => zR (j + 1) ∧ zW miX5_fillMet P 35 [zr 0, zi x, zi y, zi i, zi (j + 1)] D') := by
            intro v hv
            refine c_Row_set p118 (by omega) (by omega) ⟨⟨by omega, by omega⟩, ?_⟩
            refine ihr (j + 1) _ (by omega) (by omega) (by omega) (fun o ho => by rw [zU_ne ho]; exact p1 o ho) (fun i' j' a0 a1 a2 a3 => ?_)
            by_cases e : i' = i ∧ j' = j
            · rw [e.1, e.2, zU_s]; exact hv
            · rw [zU_k (by omega)]
              exact p2 i' j' a0 (by omega) a2 a3
          refine sX5_fillMet_35 _ _ _ _ _ ?_
          simp only [tX5_fillMet_35, w_ic, w_lc, w_lds, w_ild, w_lld, w_ald, w_ist, w_lst, w_ast, w_iinc, w_iadd, w_isub, w_imul, w_idiv, w_irem, w_iand, w_ior, w_ixor, w_ishl, w_ishr, w_iushr, w_ineg, w_ladd, w_lsub, w_lmul, w_ldiv, w_lrem, w_lcmp, w_i2l, w_l2i, w_dup, w_pop, w_dup2, w_ieq, w_zeq, w_ine, w_zne, w_ilt, w_zlt, w_ige, w_zge, w_igt, w_zgt, w_ile, w_zle, w_cut, w_tsw, zsw, w_iret, w_zret, w_lret, w_vret, w_nret, w_getI, w_getJ, w_getR, w_putI, w_putZ, w_putJ, w_iald, w_zald, w_iast, w_zast, w_alen, w_sI, w_sJ, w_sV, w_vI, w_vJ, w_vV, w_tI, w_mmax, w_mmin, w_mabs, w_lmax, w_acopy, gL, sL, kl_i, kl_l, kl_r, kl_s, kl_m, qI_i, qJ_l, qA_r, qA_s, pI_i, pJ_l, pA_r, pS_s, pM_m, pV_v, c1_i, c1_r, c1_s, c1_m, cS_0, cS_i, cS_l, cS_r, cS_s, cS_m, pN, z_rc_r, zE1, zE2, zE3, true_and, and_true, Nat.zero_add, Nat.reduceAdd, Nat.reduceLeDiff, true_or, or_true, q0, qp4, qp5, qp8, qp9, qf0, qz0, qf1, qz1, qf2, qz2, qf3, qz3, qf6, qz6, qf7, qz7, qf10, qz10, qf11, qz11, qf12, qz12, qf13, qz13, qf14, qz14, k1o, k1m, k1f0, k1z0, k1f1, k1z1, k1f2, k1z2, k1f3, k1z3, k1f4, k1z4, k1f5, k1z5, k1f6, k1z6, k1f7, k1z7, k1r0, k1r1, k1r2, k1r3, k1r4, k1r5, k1r6, k1w, k109, k109a, k109b, k109c, k109d, k109e, k109f, k109g, kr110, kr112, kr114, kr116, kr118, kr120, kr122]
          refine ⟨fun q => absurd q (by omega), fun _ => ⟨⟨by omega, by omega⟩, ⟨by omega, by omega⟩, ?_⟩⟩
          refine c_firstMeeting (f := sAt (s 0) x) (g := sAt (s 0) y) (fun m hm => by rw [p1 115 (by decide)]; exact hf m hm) (fun m hm => by rw [p1 117 (by decide)]; exact d8 m hm) i0 (by omega) j0 (by omega) (by decide) (by decide) ?_
          rw [show ((30 : Int) + 1).toNat = 31 from rfl]
          refine ⟨fun q => put 1 ?_, fun q => put 0 ?_⟩
          · unfold sMe; rw [if_neg q]
          · unfold sMe; rw [if_pos (Decidable.not_not.mp q)]
      exact inner _ 0 D3 rfl (by omega) (by omega) q1 (fun i' j' a0 a1 a2 a3 => q2 i' j' a0 (by omega) a2 a3)
  exact outer _ 0 _ D2 rfl (by omega) (by omega) (fun _ _ => rfl) (fun i' j a0 a1 => by omega)
theorem c_gainOfA {D : Mem} {a : Int → Int} {x y i j : Int} {P : Int → Mem → Prop} (hM : zMet D a x y) (i0 : 0 ≤ i) (i1 : i < 10) (j0 : 0 ≤ j) (j1 : j < 10) (hP : P (sGA a x y i j) D) : zC miX5_gainOfA [zr 0, zi i, zi j] D P := by
  have i100 : ((100 : Nat) : Int) = 100 := rfl
  have hb := sMe_b (a := a) (x := x) (y := y) (i := i) (j := j)
  refine e_X5_gainOfA ?_
  simp only [tX5_gainOfA_0, w_ic, w_lc, w_lds, w_ild, w_lld, w_ald, w_ist, w_lst, w_ast, w_iinc, w_iadd, w_isub, w_imul, w_idiv, w_irem, w_iand, w_ior, w_ixor, w_ishl, w_ishr, w_iushr, w_ineg, w_ladd, w_lsub, w_lmul, w_ldiv, w_lrem, w_lcmp, w_i2l, w_l2i, w_dup, w_pop, w_dup2, w_ieq, w_zeq, w_ine, w_zne, w_ilt, w_zlt, w_ige, w_zge, w_igt, w_zgt, w_ile, w_zle, w_cut, w_tsw, zsw, w_iret, w_zret, w_lret, w_vret, w_nret, w_getI, w_getJ, w_getR, w_putI, w_putZ, w_putJ, w_iald, w_zald, w_iast, w_zast, w_alen, w_sI, w_sJ, w_sV, w_vI, w_vJ, w_vV, w_tI, w_mmax, w_mmin, w_mabs, w_lmax, w_acopy, gL, sL, kl_i, kl_l, kl_r, kl_s, kl_m, qI_i, qJ_l, qA_r, qA_s, pI_i, pJ_l, pA_r, pS_s, pM_m, pV_v, c1_i, c1_r, c1_s, c1_m, cS_0, cS_i, cS_l, cS_r, cS_s, cS_m, pN, z_rc_r, zE1, zE2, zE3, true_and, and_true, Nat.zero_add, Nat.reduceAdd, Nat.reduceLeDiff, true_or, or_true, q0, qp4, qp5, qp8, qp9, qf0, qz0, qf1, qz1, qf2, qz2, qf3, qz3, qf6, qz6, qf7, qz7, qf10, qz10, qf11, qz11, qf12, qz12, qf13, qz13, qf14, qz14, k1o, k1m, k1f0, k1z0, k1f1, k1z1, k1f2, k1z2, k1f3, k1z3, k1f4, k1z4, k1f5, k1z5, k1f6, k1z6, k1f7, k1z7, k1r0, k1r1, k1r2, k1r3, k1r4, k1r5, k1r6, k1w, k109, k109a, k109b, k109c, k109d, k109e, k109f, k109g, kr110, kr112, kr114, kr116, kr118, kr120, kr122]
  refine ⟨⟨by omega, by omega⟩, ⟨by omega, by omega⟩, ?_⟩
  refine c_Row_get p118 (by omega) (by omega) ?_
  rw [hM i j i0 i1 j0 j1]
  exact ⟨⟨by omega, by omega⟩, ⟨by omega, by omega⟩, ⟨by omega, by omega⟩, hP⟩
theorem c_gainOfB {D : Mem} {a : Int → Int} {x y i j : Int} {P : Int → Mem → Prop} (hM : zMet D a x y) (i0 : 0 ≤ i) (i1 : i < 10) (j0 : 0 ≤ j) (j1 : j < 10) (hP : P (sGB a x y i j) D) : zC miX5_gainOfB [zr 0, zi i, zi j] D P := by
  have i100 : ((100 : Nat) : Int) = 100 := rfl
  have hb := sMe_b (a := a) (x := x) (y := y) (i := i) (j := j)
  refine e_X5_gainOfB ?_
  simp only [tX5_gainOfB_0, w_ic, w_lc, w_lds, w_ild, w_lld, w_ald, w_ist, w_lst, w_ast, w_iinc, w_iadd, w_isub, w_imul, w_idiv, w_irem, w_iand, w_ior, w_ixor, w_ishl, w_ishr, w_iushr, w_ineg, w_ladd, w_lsub, w_lmul, w_ldiv, w_lrem, w_lcmp, w_i2l, w_l2i, w_dup, w_pop, w_dup2, w_ieq, w_zeq, w_ine, w_zne, w_ilt, w_zlt, w_ige, w_zge, w_igt, w_zgt, w_ile, w_zle, w_cut, w_tsw, zsw, w_iret, w_zret, w_lret, w_vret, w_nret, w_getI, w_getJ, w_getR, w_putI, w_putZ, w_putJ, w_iald, w_zald, w_iast, w_zast, w_alen, w_sI, w_sJ, w_sV, w_vI, w_vJ, w_vV, w_tI, w_mmax, w_mmin, w_mabs, w_lmax, w_acopy, gL, sL, kl_i, kl_l, kl_r, kl_s, kl_m, qI_i, qJ_l, qA_r, qA_s, pI_i, pJ_l, pA_r, pS_s, pM_m, pV_v, c1_i, c1_r, c1_s, c1_m, cS_0, cS_i, cS_l, cS_r, cS_s, cS_m, pN, z_rc_r, zE1, zE2, zE3, true_and, and_true, Nat.zero_add, Nat.reduceAdd, Nat.reduceLeDiff, true_or, or_true, q0, qp4, qp5, qp8, qp9, qf0, qz0, qf1, qz1, qf2, qz2, qf3, qz3, qf6, qz6, qf7, qz7, qf10, qz10, qf11, qz11, qf12, qz12, qf13, qz13, qf14, qz14, k1o, k1m, k1f0, k1z0, k1f1, k1z1, k1f2, k1z2, k1f3, k1z3, k1f4, k1z4, k1f5, k1z5, k1f6, k1z6, k1f7, k1z7, k1r0, k1r1, k1r2, k1r3, k1r4, k1r5, k1r6, k1w, k109, k109a, k109b, k109c, k109d, k109e, k109f, k109g, kr110, kr112, kr114, kr116, kr118, kr120, kr122]
  refine ⟨⟨by omega, by omega⟩, ⟨by omega, by omega⟩, ?_⟩
  refine c_Row_get p118 (by omega) (by omega) ?_
  rw [hM i j i0 i1 j0 j1]
  exact ⟨⟨by omega, by omega⟩, ⟨by omega, by omega⟩, ⟨by omega, by omega⟩, ⟨by omega, by omega⟩, hP⟩
theorem sG_b {a : Int → Int} {x y i j : Int} (i0 : 0 ≤ i) (i1 : i < 10) (j0 : 0 ≤ j) (j1 : j < 10) : (-10 ≤ sGA a x y i j ∧ sGA a x y i j ≤ 10) ∧ (-10 ≤ sGB a x y i j ∧ sGB a x y i j ≤ 10) := by
  have hb := sMe_b (a := a) (x := x) (y := y) (i := i) (j := j)
  unfold sGA sGB
  omega
theorem c_rests {D : Mem} {a : Int → Int} {x y t : Int} {P : Int → Mem → Prop} (hM : zMet D a x y) (t0 : 0 ≤ t) (t1 : t < 100) (h1 : sRs a x y t → P 1 D) (h0 : ¬ sRs a x y t → P 0 D) : zC miX5_rests [zr 0, zi (t / 10), zi (t % 10)] D P := by
  have a0 : 0 ≤ t / 10 := by omega
  have a1 : t / 10 < 10 := by omega
  have b0 : 0 ≤ t % 10 := by omega
  have b1 : t % 10 < 10 := by omega
  have loop : ∀ (r : Nat) (o : Int), (10 - o).toNat = r → 0 ≤ o → o ≤ 10 → (∀ u, 0 ≤ u → u < o → sGA a x y u (t % 10) ≤ sGA a x y (t / 10) (t % 10) ∧ sGB a x y (t / 10) u ≤ sGB a x y (t / 10) (t % 10)) → zW miX5_rests P 18 [zr 0, zi (t / 10), zi (t % 10), zi (sGA a x y (t / 10) (t % 10)), zi (sGB a x y (t / 10) (t % 10)), zi o] D := by
    intro r
    induction r with
    | zero =>
      intro o hr o0 o1 hu
      refine sX5_rests_18 _ _ _ _ _ ?_
      simp only [tX5_rests_18, w_ic, w_lc, w_lds, w_ild, w_lld, w_ald, w_ist, w_lst, w_ast, w_iinc, w_iadd, w_isub, w_imul, w_idiv, w_irem, w_iand, w_ior, w_ixor, w_ishl, w_ishr, w_iushr, w_ineg, w_ladd, w_lsub, w_lmul, w_ldiv, w_lrem, w_lcmp, w_i2l, w_l2i, w_dup, w_pop, w_dup2, w_ieq, w_zeq, w_ine, w_zne, w_ilt, w_zlt, w_ige, w_zge, w_igt, w_zgt, w_ile, w_zle, w_cut, w_tsw, zsw, w_iret, w_zret, w_lret, w_vret, w_nret, w_getI, w_getJ, w_getR, w_putI, w_putZ, w_putJ, w_iald, w_zald, w_iast, w_zast, w_alen, w_sI, w_sJ, w_sV, w_vI, w_vJ, w_vV, w_tI, w_mmax, w_mmin, w_mabs, w_lmax, w_acopy, gL, sL, kl_i, kl_l, kl_r, kl_s, kl_m, qI_i, qJ_l, qA_r, qA_s, pI_i, pJ_l, pA_r, pS_s, pM_m, pV_v, c1_i, c1_r, c1_s, c1_m, cS_0, cS_i, cS_l, cS_r, cS_s, cS_m, pN, z_rc_r, zE1, zE2, zE3, true_and, and_true, Nat.zero_add, Nat.reduceAdd, Nat.reduceLeDiff, true_or, or_true, q0, qp4, qp5, qp8, qp9, qf0, qz0, qf1, qz1, qf2, qz2, qf3, qz3, qf6, qz6, qf7, qz7, qf10, qz10, qf11, qz11, qf12, qz12, qf13, qz13, qf14, qz14, k1o, k1m, k1f0, k1z0, k1f1, k1z1, k1f2, k1z2, k1f3, k1z3, k1f4, k1z4, k1f5, k1z5, k1f6, k1z6, k1f7, k1z7, k1r0, k1r1, k1r2, k1r3, k1r4, k1r5, k1r6, k1w, k109, k109a, k109b, k109c, k109d, k109e, k109f, k109g, kr110, kr112, kr114, kr116, kr118, kr120, kr122]
      exact ⟨fun _ => h1 fun u u0 u1 => hu u u0 (by omega), fun q => absurd (by omega) q⟩
    | succ r ih =>
      intro o hr o0 o1 hu
      refine sX5_rests_18 _ _ _ _ _ ?_
      simp only [tX5_rests_18, w_ic, w_lc, w_lds, w_ild, w_lld, w_ald, w_ist, w_lst, w_ast, w_iinc, w_iadd, w_isub, w_imul, w_idiv, w_irem, w_iand, w_ior, w_ixor, w_ishl, w_ishr, w_iushr, w_ineg, w_ladd, w_lsub, w_lmul, w_ldiv, w_lrem, w_lcmp, w_i2l, w_l2i, w_dup, w_pop, w_dup2, w_ieq, w_zeq, w_ine, w_zne, w_ilt, w_zlt, w_ige, w_zge, w_igt, w_zgt, w_ile, w_zle, w_cut, w_tsw, zsw, w_iret, w_zret, w_lret, w_vret, w_nret, w_getI, w_getJ, w_getR, w_putI, w_putZ, w_putJ, w_iald, w_zald, w_iast, w_zast, w_alen, w_sI, w_sJ, w_sV, w_vI, w_vJ, w_vV, w_tI, w_mmax, w_mmin, w_mabs, w_lmax, w_acopy, gL, sL, kl_i, kl_l, kl_r, kl_s, kl_m, qI_i, qJ_l, qA_r, qA_s, pI_i, pJ_l, pA_r, pS_s, pM_m, pV_v, c1_i, c1_r, c1_s, c1_m, cS_0, cS_i, cS_l, cS_r, cS_s, cS_m, pN, z_rc_r, zE1, zE2, zE3, true_and, and_true, Nat.zero_add, Nat.reduceAdd, Nat.reduceLeDiff, true_or, or_true, q0, qp4, qp5, qp8, qp9, qf0, qz0, qf1, qz1, qf2, qz2, qf3, qz3, qf6, qz6, qf7, qz7, qf10, qz10, qf11, qz11, qf12, qz12, qf13, qz13, qf14, qz14, k1o, k1m, k1f0, k1z0, k1f1, k1z1, k1f2, k1z2, k1f3, k1z3, k1f4, k1z4, k1f5, k1z5, k1f6, k1z6, k1f7, k1z7, k1r0, k1r1, k1r2, k1r3, k1r4, k1r5, k1r6, k1w, k109, k109a, k109b, k109c, k109d, k109e, k109f, k109g, kr110, kr112, kr114, kr116, kr118, kr120, kr122]
      refine ⟨fun q => absurd q (by omega), fun _ => ?_⟩
      refine c_gainOfA hM o0 (by omega) b0 b1 ⟨fun q => h0 fun w => ?_, fun q => ?_⟩
      · have := (w o o0 (by omega)).1
        omega
      · refine c_gainOfB hM a0 a1 o0 (by omega) ⟨fun q2 => ⟨⟨by omega, by omega⟩, ih (o + 1) (by omega) (by omega) (by omega) fun u u0 u1 => ?_⟩, fun q2 => h0 fun w => ?_⟩
        · by_cases e : u = o
          · rw [e]; exact ⟨by omega, by omega⟩
          · exact hu u u0 (by omega)
        · have := (w o o0 (by omega)).2
          omega
  refine e_X5_rests ?_
  simp only [tX5_rests_0, w_ic, w_lc, w_lds, w_ild, w_lld, w_ald, w_ist, w_lst, w_ast, w_iinc, w_iadd, w_isub, w_imul, w_idiv, w_irem, w_iand, w_ior, w_ixor, w_ishl, w_ishr, w_iushr, w_ineg, w_ladd, w_lsub, w_lmul, w_ldiv, w_lrem, w_lcmp, w_i2l, w_l2i, w_dup, w_pop, w_dup2, w_ieq, w_zeq, w_ine, w_zne, w_ilt, w_zlt, w_ige, w_zge, w_igt, w_zgt, w_ile, w_zle, w_cut, w_tsw, zsw, w_iret, w_zret, w_lret, w_vret, w_nret, w_getI, w_getJ, w_getR, w_putI, w_putZ, w_putJ, w_iald, w_zald, w_iast, w_zast, w_alen, w_sI, w_sJ, w_sV, w_vI, w_vJ, w_vV, w_tI, w_mmax, w_mmin, w_mabs, w_lmax, w_acopy, gL, sL, kl_i, kl_l, kl_r, kl_s, kl_m, qI_i, qJ_l, qA_r, qA_s, pI_i, pJ_l, pA_r, pS_s, pM_m, pV_v, c1_i, c1_r, c1_s, c1_m, cS_0, cS_i, cS_l, cS_r, cS_s, cS_m, pN, z_rc_r, zE1, zE2, zE3, true_and, and_true, Nat.zero_add, Nat.reduceAdd, Nat.reduceLeDiff, true_or, or_true, q0, qp4, qp5, qp8, qp9, qf0, qz0, qf1, qz1, qf2, qz2, qf3, qz3, qf6, qz6, qf7, qz7, qf10, qz10, qf11, qz11, qf12, qz12, qf13, qz13, qf14, qz14, k1o, k1m, k1f0, k1z0, k1f1, k1z1, k1f2, k1z2, k1f3, k1z3, k1f4, k1z4, k1f5, k1z5, k1f6, k1z6, k1f7, k1z7, k1r0, k1r1, k1r2, k1r3, k1r4, k1r5, k1r6, k1w, k109, k109a, k109b, k109c, k109d, k109e, k109f, k109g, kr110, kr112, kr114, kr116, kr118, kr120, kr122]
  refine c_gainOfA hM a0 a1 b0 b1 ?_
  refine c_gainOfB hM a0 a1 b0 b1 ?_
  exact loop _ 0 rfl (by omega) (by omega) (fun u u0 u1 => by omega)
theorem v_shy {n x y k : Int} {s : Mem} (hW : WS n s) (hn : n < 1000000) : cOK miX5_shy [zr 0, zi x, zi y, zi k] s (r_shy s x y k) := by
  intro D P hC hP
  unfold r_shy at hP
  refine e_X5_shy ?_
  simp only [tX5_shy_0, w_ic, w_lc, w_lds, w_ild, w_lld, w_ald, w_ist, w_lst, w_ast, w_iinc, w_iadd, w_isub, w_imul, w_idiv, w_irem, w_iand, w_ior, w_ixor, w_ishl, w_ishr, w_iushr, w_ineg, w_ladd, w_lsub, w_lmul, w_ldiv, w_lrem, w_lcmp, w_i2l, w_l2i, w_dup, w_pop, w_dup2, w_ieq, w_zeq, w_ine, w_zne, w_ilt, w_zlt, w_ige, w_zge, w_igt, w_zgt, w_ile, w_zle, w_cut, w_tsw, zsw, w_iret, w_zret, w_lret, w_vret, w_nret, w_getI, w_getJ, w_getR, w_putI, w_putZ, w_putJ, w_iald, w_zald, w_iast, w_zast, w_alen, w_sI, w_sJ, w_sV, w_vI, w_vJ, w_vV, w_tI, w_mmax, w_mmin, w_mabs, w_lmax, w_acopy, gL, sL, kl_i, kl_l, kl_r, kl_s, kl_m, qI_i, qJ_l, qA_r, qA_s, pI_i, pJ_l, pA_r, pS_s, pM_m, pV_v, c1_i, c1_r, c1_s, c1_m, cS_0, cS_i, cS_l, cS_r, cS_s, cS_m, pN, z_rc_r, zE1, zE2, zE3, true_and, and_true, Nat.zero_add, Nat.reduceAdd, Nat.reduceLeDiff, true_or, or_true, q0, qp4, qp5, qp8, qp9, qf0, qz0, qf1, qz1, qf2, qz2, qf3, qz3, qf6, qz6, qf7, qz7, qf10, qz10, qf11, qz11, qf12, qz12, qf13, qz13, qf14, qz14, k1o, k1m, k1f0, k1z0, k1f1, k1z1, k1f2, k1z2, k1f3, k1z3, k1f4, k1z4, k1f5, k1z5, k1f6, k1z6, k1f7, k1z7, k1r0, k1r1, k1r2, k1r3, k1r4, k1r5, k1r6, k1w, k109, k109a, k109b, k109c, k109d, k109e, k109f, k109g, kr110, kr112, kr114, kr116, kr118, kr120, kr122]
  refine c_areTwo hC (fun h => ⟨fun w => absurd w (by decide), fun _ => ⟨fun q => ?_, fun q => ?_⟩⟩) (fun q => ⟨fun _ => ?_, fun w => absurd rfl w⟩)
  · rw [cIf_t ⟨h, by omega⟩] at hP
    refine c_fillMet hC h fun D1 d1 d2 d3 => ?_
    have hP2 := fun (v : Int) (e : cIf (zFst (fun t => sRs (s 0) x y t ∧ sRn (s 0) x y t.toNat = k) 100 = -1) (cIf (k = -1) (sRn (s 0) x y 100, s) (-5, s)) (zFst (fun t => sRs (s 0) x y t ∧ sRn (s 0) x y t.toNat = k) 100, s) = (v, s)) => by
      have := hP D1 d1
      rw [e] at this
      exact this d2
    have loop : ∀ (r : Nat) (t : Int), (100 - t).toNat = r → 0 ≤ t → t ≤ 100 → (∀ u, 0 ≤ u → u < t → ¬ (sRs (s 0) x y u ∧ sRn (s 0) x y u.toNat = k)) → zW miX5_shy P 33 [zr 0, zi x, zi y, zi k, zi (sRn (s 0) x y t.toNat), zi t] D1 := by
      intro r
      induction r with
      | zero =>
        intro t hr t0 t1 hu
        have e : zFst (fun t => sRs (s 0) x y t ∧ sRn (s 0) x y t.toNat = k) 100 = -1 := zFst_no fun u u0 u1 => hu u u0 (by omega)
        refine sX5_shy_33 _ _ _ _ _ ?_
        simp only [tX5_shy_33, w_ic, w_lc, w_lds, w_ild, w_lld, w_ald, w_ist, w_lst, w_ast, w_iinc, w_iadd, w_isub, w_imul, w_idiv, w_irem, w_iand, w_ior, w_ixor, w_ishl, w_ishr, w_iushr, w_ineg, w_ladd, w_lsub, w_lmul, w_ldiv, w_lrem, w_lcmp, w_i2l, w_l2i, w_dup, w_pop, w_dup2, w_ieq, w_zeq, w_ine, w_zne, w_ilt, w_zlt, w_ige, w_zge, w_igt, w_zgt, w_ile, w_zle, w_cut, w_tsw, zsw, w_iret, w_zret, w_lret, w_vret, w_nret, w_getI, w_getJ, w_getR, w_putI, w_putZ, w_putJ, w_iald, w_zald, w_iast, w_zast, w_alen, w_sI, w_sJ, w_sV, w_vI, w_vJ, w_vV, w_tI, w_mmax, w_mmin, w_mabs, w_lmax, w_acopy, gL, sL, kl_i, kl_l, kl_r, kl_s, kl_m, qI_i, qJ_l, qA_r, qA_s, pI_i, pJ_l, pA_r, pS_s, pM_m, pV_v, c1_i, c1_r, c1_s, c1_m, cS_0, cS_i, cS_l, cS_r, cS_s, cS_m, pN, z_rc_r, zE1, zE2, zE3, true_and, and_true, Nat.zero_add, Nat.reduceAdd, Nat.reduceLeDiff, true_or, or_true, q0, qp4, qp5, qp8, qp9, qf0, qz0, qf1, qz1, qf2, qz2, qf3, qz3, qf6, qz6, qf7, qz7, qf10, qz10, qf11, qz11, qf12, qz12, qf13, qz13, qf14, qz14, k1o, k1m, k1f0, k1z0, k1f1, k1z1, k1f2, k1z2, k1f3, k1z3, k1f4, k1z4, k1f5, k1z5, k1f6, k1z6, k1f7, k1z7, k1r0, k1r1, k1r2, k1r3, k1r4, k1r5, k1r6, k1w, k109, k109a, k109b, k109c, k109d, k109e, k109f, k109g, kr110, kr112, kr114, kr116, kr118, kr120, kr122]
        refine ⟨fun _ => ⟨fun q => ?_, fun q => ?_⟩, fun q => absurd (by omega) q⟩
        · exact hP2 _ (by rw [cIf_t e, cIf_f q])
        · rw [show t = 100 by omega]
          exact hP2 _ (by rw [cIf_t e, cIf_t (Decidable.not_not.mp q)]; rfl)
      | succ r ih =>
        intro t hr t0 t1 hu
        have nx := ih (t + 1) (by omega) (by omega) (by omega)
        have hz : 0 ≤ sRn (s 0) x y t.toNat ∧ sRn (s 0) x y t.toNat ≤ (t.toNat : Int) * 1 := zsum_b _ (fun k _ _ => by
          by_cases q : sRs (s 0) x y k
          · rw [cIf_t q]; omega
          · rw [cIf_f q]; omega)
        have es : sRn (s 0) x y (t + 1).toNat = sRn (s 0) x y t.toNat + cIf (sRs (s 0) x y t) 1 0 := zsum_s t0
        rw [es] at nx
        refine sX5_shy_33 _ _ _ _ _ ?_
        simp only [tX5_shy_33, w_ic, w_lc, w_lds, w_ild, w_lld, w_ald, w_ist, w_lst, w_ast, w_iinc, w_iadd, w_isub, w_imul, w_idiv, w_irem, w_iand, w_ior, w_ixor, w_ishl, w_ishr, w_iushr, w_ineg, w_ladd, w_lsub, w_lmul, w_ldiv, w_lrem, w_lcmp, w_i2l, w_l2i, w_dup, w_pop, w_dup2, w_ieq, w_zeq, w_ine, w_zne, w_ilt, w_zlt, w_ige, w_zge, w_igt, w_zgt, w_ile, w_zle, w_cut, w_tsw, zsw, w_iret, w_zret, w_lret, w_vret, w_nret, w_getI, w_getJ, w_getR, w_putI, w_putZ, w_putJ, w_iald, w_zald, w_iast, w_zast, w_alen, w_sI, w_sJ, w_sV, w_vI, w_vJ, w_vV, w_tI, w_mmax, w_mmin, w_mabs, w_lmax, w_acopy, gL, sL, kl_i, kl_l, kl_r, kl_s, kl_m, qI_i, qJ_l, qA_r, qA_s, pI_i, pJ_l, pA_r, pS_s, pM_m, pV_v, c1_i, c1_r, c1_s, c1_m, cS_0, cS_i, cS_l, cS_r, cS_s, cS_m, pN, z_rc_r, zE1, zE2, zE3, true_and, and_true, Nat.zero_add, Nat.reduceAdd, Nat.reduceLeDiff, true_or, or_true, q0, qp4, qp5, qp8, qp9, qf0, qz0, qf1, qz1, qf2, qz2, qf3, qz3, qf6, qz6, qf7, qz7, qf10, qz10, qf11, qz11, qf12, qz12, qf13, qz13, qf14, qz14, k1o, k1m, k1f0, k1z0, k1f1, k1z1, k1f2, k1z2, k1f3, k1z3, k1f4, k1z4, k1f5, k1z5, k1f6, k1z6, k1f7, k1z7, k1r0, k1r1, k1r2, k1r3, k1r4, k1r5, k1r6, k1w, k109, k109a, k109b, k109c, k109d, k109e, k109f, k109g, kr110, kr112, kr114, kr116, kr118, kr120, kr122]
        refine ⟨fun q => absurd q (by omega), fun _ => ⟨⟨by omega, by omega⟩, ⟨by omega, by omega⟩, ?_⟩⟩
        have step : ¬ (sRs (s 0) x y t ∧ sRn (s 0) x y t.toNat = k) → ∀ u, 0 ≤ u → u < t + 1 → ¬ (sRs (s 0) x y u ∧ sRn (s 0) x y u.toNat = k) := fun q u u0 u1 => by
          by_cases e : u = t
          · rw [e]; exact q
          · exact hu u u0 (by omega)
        refine c_rests d3 t0 (by omega) (fun h2 => ⟨fun _ => ⟨fun q => ⟨⟨by omega, by omega⟩, ⟨by omega, by omega⟩, ?_⟩, fun q => ?_⟩, fun w => absurd (by decide) w⟩) (fun h2 => ⟨fun w => absurd rfl w, fun _ => ⟨⟨by omega, by omega⟩, ?_⟩⟩)
        · rw [cIf_t h2] at nx
          exact nx (step fun w => q w.2)
        · have hq := Decidable.not_not.mp q
          have e : zFst (fun t => sRs (s 0) x y t ∧ sRn (s 0) x y t.toNat = k) 100 = t := zFst_of (p := fun t => sRs (s 0) x y t ∧ sRn (s 0) x y t.toNat = k) t0 ⟨h2, hq⟩ hu (by omega)
          exact hP2 t (by rw [cIf_f (by omega), e])
        · rw [cIf_f h2, Int.add_zero] at nx
          exact nx (step fun w => h2 w.1)
    exact loop _ 0 rfl (by omega) (by omega) (fun u u0 u1 => by omega)
  · rw [cIf_f (fun w => by omega)] at hP
    exact c_badAs hC hW hn hP
  · rw [cIf_f (fun w => q w.1)] at hP
    exact c_badAs hC hW hn hP
