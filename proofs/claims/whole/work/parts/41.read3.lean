/-! ===== 41: the class reads a whole text ===== -/
/-- items behind place p: so many at most, n found so far; (answer, draft, 1 if good) -/
noncomputable def rAll (s : Mem) : Nat → (Int → Int) → Int → Int → Int × (Int → Int)
  | 0, a, _, n => (n, a)
  | k + 1, a, p, n => cIf (tTo s p = 0) (n, a) (cIf ((rItm s a (tTo s p) (tSt s p) (tEn s p)).1 = 1)
      (cIf (tTo s (rItm s a (tTo s p) (tSt s p) (tEn s p)).2.2 = 3) (rAll s k (rItm s a (tTo s p) (tSt s p) (tEn s p)).2.1 (tEn s (rItm s a (tTo s p) (tSt s p) (tEn s p)).2.2) (n + 1)) (-10 - tSt s (rItm s a (tTo s p) (tSt s p) (tEn s p)).2.2, a))
      (-10 - (rItm s a (tTo s p) (tSt s p) (tEn s p)).2.2, a))
theorem rItm_01 (s : Mem) (a : Int → Int) (tk st en : Int) : (rItm s a tk st en).1 = 0 ∨ (rItm s a tk st en).1 = 1 := by
  have c : ∀ (p : Prop) (x y : IR), (x.1 = 0 ∨ x.1 = 1) → (y.1 = 0 ∨ y.1 = 1) → ((cIf p x y).1 = 0 ∨ (cIf p x y).1 = 1) := by
    intro p x y hx hy
    by_cases q : p
    · rw [cIf_t q]; exact hx
    · rw [cIf_f q]; exact hy
  unfold rItm rLad rGoe rWin rTur rDra rMin
  repeat' (first | apply c | exact Or.inl rfl | exact Or.inr rfl)
noncomputable def rTxt (s : Mem) : Int × (Int → Int) := cIf (isWd s (tTo s 0) (tSt s 0) (tEn s 0) 0) (cIf (tTo s (tEn s 0) = 3) (rAll s 150 (fun _ => 0) (tEn s (tEn s 0)) 1) (-10 - tSt s (tEn s 0), fun _ => 0)) (-10 - tSt s 0, fun _ => 0)
theorem c_readInto {M0 : Int} {D s : Mem} {x : Int → Int} {P : Int → Mem → Prop} (hT : zTx D s) (hB : BK M0 D 28 x) (hP : ∀ D', zFd D D' → zTx D' s → (∃ M y, M ≤ 9999 ∧ BK M D' 28 y ∧ (0 ≤ (rTxt s).1 → y = (rTxt s).2)) → -160 ≤ (rTxt s).1 → (rTxt s).1 ≤ 200 → P (rTxt s).1 D') : zC miX1_readInto [zr 109, zr 28] D P := by
  have hl := hT.1
  unfold rTxt at hP
  have loop : ∀ (r i : Nat) (n : Int) (D2 : Mem) (a : Int → Int) (p : Int), 150 - i = r → i ≤ 150 → zFd D D2 → zTx D2 s → D2 109 2 = p → 0 ≤ p → p ≤ s 4 0 → 2 * (i : Int) ≤ p → BK (99 * i) D2 28 a → a 120 = 0 → 1 ≤ n → n ≤ 1 + i → (∀ D', zFd D D' → zTx D' s → (∃ M y, M ≤ 9999 ∧ BK M D' 28 y ∧ (0 ≤ (rAll s r a p n).1 → y = (rAll s r a p n).2)) → -160 ≤ (rAll s r a p n).1 → (rAll s r a p n).1 ≤ 200 → P (rAll s r a p n).1 D') → zW miX1_readInto P 41 [zr 109, zr 28, zi n, zi i] D2 := by
    intro r
    induction r with
    | zero =>
      intro i n D2 a p hr hi q1 q2 q3 p0 p1 pi q4 q5 n0 n1 hQ
      refine sX1_readInto_41 _ _ _ _ _ ?_
      simp only [tX1_readInto_41, w_ic, w_lc, w_lds, w_ild, w_lld, w_ald, w_ist, w_lst, w_ast, w_iinc, w_iadd, w_isub, w_imul, w_idiv, w_irem, w_iand, w_ior, w_ixor, w_ishl, w_ishr, w_iushr, w_ineg, w_ladd, w_lsub, w_lmul, w_ldiv, w_lrem, w_lcmp, w_i2l, w_l2i, w_dup, w_pop, w_dup2, w_ieq, w_zeq, w_ine, w_zne, w_ilt, w_zlt, w_ige, w_zge, w_igt, w_zgt, w_ile, w_zle, w_cut, w_tsw, zsw, w_iret, w_zret, w_lret, w_vret, w_nret, w_getI, w_getJ, w_getR, w_putI, w_putZ, w_putJ, w_iald, w_zald, w_iast, w_zast, w_alen, w_sI, w_sJ, w_sV, w_vI, w_vJ, w_vV, w_tI, w_mmax, w_mmin, w_mabs, w_lmax, w_acopy, gL, sL, kl_i, kl_l, kl_r, kl_s, kl_m, qI_i, qJ_l, qA_r, qA_s, pI_i, pJ_l, pA_r, pS_s, pM_m, pV_v, c1_i, c1_r, c1_s, c1_m, cS_0, cS_i, cS_l, cS_r, cS_s, cS_m, pN, z_rc_r, zE1, zE2, zE3, true_and, and_true, Nat.zero_add, Nat.reduceAdd, Nat.reduceLeDiff, true_or, or_true, q0, qp4, qp5, qp8, qp9, qf0, qz0, qf1, qz1, qf2, qz2, qf3, qz3, qf6, qz6, qf7, qz7, qf10, qz10, qf11, qz11, qf12, qz12, qf13, qz13, qf14, qz14, k1o, k1m, k1f0, k1z0, k1f1, k1z1, k1f2, k1z2, k1f3, k1z3, k1f4, k1z4, k1f5, k1z5, k1f6, k1z6, k1f7, k1z7, k1r0, k1r1, k1r2, k1r3, k1r4, k1r5, k1r6, k1w, k109, k109a, k109b, k109c, k109d, k109e, k109f, k109g, kr110, kr112, kr114, kr116, kr118, kr120, kr122]
      refine ⟨fun _ => hQ D2 q1 q2 ⟨99 * i, a, by omega, q4, fun _ => rfl⟩ (by show -160 ≤ n; omega) (by show n ≤ 200; omega), fun w => absurd (by omega) w⟩
    | succ r ih =>
      intro i n D2 a p hr hi q1 q2 q3 p0 p1 pi q4 q5 n0 n1 hQ
      have eA : rAll s (r + 1) a p n = cIf (tTo s p = 0) (n, a) (cIf ((rItm s a (tTo s p) (tSt s p) (tEn s p)).1 = 1) (cIf (tTo s (rItm s a (tTo s p) (tSt s p) (tEn s p)).2.2 = 3) (rAll s r (rItm s a (tTo s p) (tSt s p) (tEn s p)).2.1 (tEn s (rItm s a (tTo s p) (tSt s p) (tEn s p)).2.2) (n + 1)) (-10 - tSt s (rItm s a (tTo s p) (tSt s p) (tEn s p)).2.2, a)) (-10 - (rItm s a (tTo s p) (tSt s p) (tEn s p)).2.2, a)) := rfl
      rw [eA] at hQ
      refine sX1_readInto_41 _ _ _ _ _ ?_
      simp only [tX1_readInto_41, w_ic, w_lc, w_lds, w_ild, w_lld, w_ald, w_ist, w_lst, w_ast, w_iinc, w_iadd, w_isub, w_imul, w_idiv, w_irem, w_iand, w_ior, w_ixor, w_ishl, w_ishr, w_iushr, w_ineg, w_ladd, w_lsub, w_lmul, w_ldiv, w_lrem, w_lcmp, w_i2l, w_l2i, w_dup, w_pop, w_dup2, w_ieq, w_zeq, w_ine, w_zne, w_ilt, w_zlt, w_ige, w_zge, w_igt, w_zgt, w_ile, w_zle, w_cut, w_tsw, zsw, w_iret, w_zret, w_lret, w_vret, w_nret, w_getI, w_getJ, w_getR, w_putI, w_putZ, w_putJ, w_iald, w_zald, w_iast, w_zast, w_alen, w_sI, w_sJ, w_sV, w_vI, w_vJ, w_vV, w_tI, w_mmax, w_mmin, w_mabs, w_lmax, w_acopy, gL, sL, kl_i, kl_l, kl_r, kl_s, kl_m, qI_i, qJ_l, qA_r, qA_s, pI_i, pJ_l, pA_r, pS_s, pM_m, pV_v, c1_i, c1_r, c1_s, c1_m, cS_0, cS_i, cS_l, cS_r, cS_s, cS_m, pN, z_rc_r, zE1, zE2, zE3, true_and, and_true, Nat.zero_add, Nat.reduceAdd, Nat.reduceLeDiff, true_or, or_true, q0, qp4, qp5, qp8, qp9, qf0, qz0, qf1, qz1, qf2, qz2, qf3, qz3, qf6, qz6, qf7, qz7, qf10, qz10, qf11, qz11, qf12, qz12, qf13, qz13, qf14, qz14, k1o, k1m, k1f0, k1z0, k1f1, k1z1, k1f2, k1z2, k1f3, k1z3, k1f4, k1z4, k1f5, k1z5, k1f6, k1z6, k1f7, k1z7, k1r0, k1r1, k1r2, k1r3, k1r4, k1r5, k1r6, k1w, k109, k109a, k109b, k109c, k109d, k109e, k109f, k109g, kr110, kr112, kr114, kr116, kr118, kr120, kr122]
      refine ⟨fun w => absurd w (by omega), fun _ => ?_⟩
      refine c_nextToken q2 q3 p0 p1 fun D3 e1 e2 e3 e4 e5 e6 e7 => ?_
      rw [e5]
      have hT3 := q2.rd e1 e2
      have hB3 : BK (99 * i) D3 28 a := q4.out fun o _ _ => e1 o (by omega)
      refine ⟨fun g => ?_, fun g => ?_⟩
      · rw [cIf_f g] at hQ
        refine c_readItem (by omega) (by omega) hT3 hB3 q5 e3 e4 e5 (by omega) e7.2.1 e7.2.2.1 ⟨fun h1 D4 a1 a2 a3 a4 a5 a6 => ⟨fun w => absurd w (by decide), fun _ => ?_⟩, fun h0 D4 a1 a2 a3 a4 a5 => ⟨fun _ => ?_, fun w => absurd rfl w⟩⟩
        · rw [cIf_t h1] at hQ
          refine c_nextIsStop a2 a3 (by omega) a6.2 (fun h3 D5 b1 b2 b3 b4 b5 => ⟨fun _ => ?_, fun w => absurd (by decide) w⟩) (fun h3 D5 b1 b2 b4 b5 => ⟨fun w => absurd rfl w, fun _ => ?_⟩)
          · rw [cIf_t h3] at hQ
            refine ⟨⟨by omega, by omega⟩, ⟨by omega, by omega⟩, ?_⟩
            refine ih (i + 1) (n + 1) D5 _ _ (by omega) (by omega) (((q1.trans (zFd.rd e1)).trans a1).trans (zFd.rd b1)) (a2.rd b1 b2) b3 (by omega) b5.2.2 (by omega) ?_ a5 (by omega) (by omega) hQ
            rw [show 99 * ((i + 1 : Nat) : Int) = 99 * i + 99 by omega]
            exact a4.out fun o _ _ => b1 o (by omega)
          · rw [cIf_f h3] at hQ
            rw [b4]
            refine ⟨⟨by omega, by omega⟩, hQ D5 (((q1.trans (zFd.rd e1)).trans a1).trans (zFd.rd b1)) (a2.rd b1 b2) ⟨99 * i + 99, _, by omega, a4.out fun o _ _ => b1 o (by omega), fun w => ?_⟩ ?_ ?_⟩
            · have w' : 0 ≤ -10 - tSt s (rItm s a (tTo s p) (tSt s p) (tEn s p)).2.2 := w
              omega
            · show -160 ≤ -10 - tSt s (rItm s a (tTo s p) (tSt s p) (tEn s p)).2.2
              omega
            · show -10 - tSt s (rItm s a (tTo s p) (tSt s p) (tEn s p)).2.2 ≤ 200
              omega
        · rw [cIf_f (by omega)] at hQ
          rw [a3]
          obtain ⟨y, hy⟩ := a4
          refine ⟨⟨by omega, by omega⟩, hQ D4 ((q1.trans (zFd.rd e1)).trans a1) a2 ⟨99 * i + 99, y, by omega, hy, fun w => ?_⟩ ?_ ?_⟩
          · have w' : 0 ≤ -10 - (rItm s a (tTo s p) (tSt s p) (tEn s p)).2.2 := w
            omega
          · show -160 ≤ -10 - (rItm s a (tTo s p) (tSt s p) (tEn s p)).2.2
            omega
          · show -10 - (rItm s a (tTo s p) (tSt s p) (tEn s p)).2.2 ≤ 200
            omega
      · rw [cIf_t (by omega)] at hQ
        exact hQ D3 (q1.trans (zFd.rd e1)) hT3 ⟨99 * i, a, by omega, hB3, fun _ => rfl⟩ (by show -160 ≤ n; omega) (by show n ≤ 200; omega)
  refine e_X1_readInto ?_
  simp only [tX1_readInto_0, w_ic, w_lc, w_lds, w_ild, w_lld, w_ald, w_ist, w_lst, w_ast, w_iinc, w_iadd, w_isub, w_imul, w_idiv, w_irem, w_iand, w_ior, w_ixor, w_ishl, w_ishr, w_iushr, w_ineg, w_ladd, w_lsub, w_lmul, w_ldiv, w_lrem, w_lcmp, w_i2l, w_l2i, w_dup, w_pop, w_dup2, w_ieq, w_zeq, w_ine, w_zne, w_ilt, w_zlt, w_ige, w_zge, w_igt, w_zgt, w_ile, w_zle, w_cut, w_tsw, zsw, w_iret, w_zret, w_lret, w_vret, w_nret, w_getI, w_getJ, w_getR, w_putI, w_putZ, w_putJ, w_iald, w_zald, w_iast, w_zast, w_alen, w_sI, w_sJ, w_sV, w_vI, w_vJ, w_vV, w_tI, w_mmax, w_mmin, w_mabs, w_lmax, w_acopy, gL, sL, kl_i, kl_l, kl_r, kl_s, kl_m, qI_i, qJ_l, qA_r, qA_s, pI_i, pJ_l, pA_r, pS_s, pM_m, pV_v, c1_i, c1_r, c1_s, c1_m, cS_0, cS_i, cS_l, cS_r, cS_s, cS_m, pN, z_rc_r, zE1, zE2, zE3, true_and, and_true, Nat.zero_add, Nat.reduceAdd, Nat.reduceLeDiff, true_or, or_true, q0, qp4, qp5, qp8, qp9, qf0, qz0, qf1, qz1, qf2, qz2, qf3, qz3, qf6, qz6, qf7, qz7, qf10, qz10, qf11, qz11, qf12, qz12, qf13, qz13, qf14, qz14, k1o, k1m, k1f0, k1z0, k1f1, k1z1, k1f2, k1z2, k1f3, k1z3, k1f4, k1z4, k1f5, k1z5, k1f6, k1z6, k1f7, k1z7, k1r0, k1r1, k1r2, k1r3, k1r4, k1r5, k1r6, k1w, k109, k109a, k109b, k109c, k109d, k109e, k109f, k109g, kr110, kr112, kr114, kr116, kr118, kr120, kr122, bk2.o]
  refine c_reset (M' := 0) bk2 hB (by decide) fun D1 d1 d2 => ?_
  have hT1 := hT.sp (d1.wide (by omega) (by omega))
  have f1 : zFd D (zU D1 109 2 0) := fun o a b => by rw [zU_ne b]; exact d1 o (by omega)
  have hT1' : zTx (zU D1 109 2 0) s := hT1.of (zU_ne (by decide)) (zU_k (by decide))
  have hB1 : BK 0 (zU D1 109 2 0) 28 (fun _ => 0) := d2.out fun o _ _ => zU_ne (by omega)
  refine c_nextToken hT1' zU_s (by decide) hl.1 fun D3 e1 e2 e3 e4 e5 e6 e7 => ?_
  have hT3 := hT1'.rd e1 e2
  have hB3 : BK 0 D3 28 (fun _ => 0) := hB1.out fun o _ _ => e1 o (by omega)
  refine c_isWord (by decide) hT3 e3 e4 e5 (by omega) e7.2.1 e7.2.2.1 (fun q => ⟨fun w => absurd w (by decide), fun _ => ?_⟩) (fun q => ⟨fun _ => ?_, fun w => absurd rfl w⟩)
  · rw [cIf_t q] at hP
    refine c_nextIsStop hT3 e3 (by omega) e7.2.2.1 (fun h3 D5 b1 b2 b3 b4 b5 => ⟨fun _ => ?_, fun w => absurd (by decide) w⟩) (fun h3 D5 b1 b2 b4 b5 => ⟨fun w => absurd rfl w, fun _ => ?_⟩)
    · rw [cIf_t h3] at hP
      refine loop 150 0 1 D5 (fun _ => 0) _ rfl (by omega) ((f1.trans (zFd.rd e1)).trans (zFd.rd b1)) (hT3.rd b1 b2) b3 (by omega) b5.2.2 (by omega) ?_ rfl (by decide) (by decide) hP
      rw [show 99 * ((0 : Nat) : Int) = 0 by omega]
      exact hB3.out fun o _ _ => b1 o (by omega)
    · rw [cIf_f h3] at hP
      rw [b4]
      refine ⟨⟨by omega, by omega⟩, hP D5 ((f1.trans (zFd.rd e1)).trans (zFd.rd b1)) (hT3.rd b1 b2) ⟨0, _, by decide, hB3.out fun o _ _ => b1 o (by omega), fun _ => rfl⟩ ?_ ?_⟩
      · show -160 ≤ -10 - tSt s (tEn s 0)
        omega
      · show -10 - tSt s (tEn s 0) ≤ 200
        omega
  · rw [cIf_f q] at hP
    rw [e4]
    refine ⟨⟨by omega, by omega⟩, hP D3 (f1.trans (zFd.rd e1)) hT3 ⟨0, _, by decide, hB3, fun _ => rfl⟩ ?_ ?_⟩
    · show -160 ≤ -10 - tSt s 0
      omega
    · show -10 - tSt s 0 ≤ 200
      omega
theorem CS.rd {D D' s : Mem} {y : Int → Int} (h : CS D s) (hf : zFd D D') (hT : zTx D' s) (hB : BK 20000 D' 28 y) : CS D' s := by
  obtain ⟨⟨h1, ⟨x, h2⟩, h3, h4⟩, ⟨h5, h6⟩, ⟨h7, h8⟩, ⟨h9, h10, h11⟩, h12, h13⟩ := h
  have e : ∀ o, (o < 28 ∨ 55 ≤ o) → o ≠ 109 → D' o = D o := hf
  refine ⟨⟨h1.out fun o _ _ => e o (by omega) (by omega), ⟨y, hB⟩, h3.out fun o _ _ => e o (by omega) (by omega), h4.out fun o _ _ => e o (by omega) (by omega)⟩, ⟨hT.2.1, hT.2.2⟩, ?_⟩
  rw [e 0 (by decide) (by decide), e 113 (by decide) (by decide)]
  exact ⟨⟨h7, h8⟩, ⟨h9, h10, h11⟩, h12, h13⟩
noncomputable def r_read (s : Mem) : Int × Mem := cIf ((rTxt s).1 < 0) ((rTxt s).1, s) ((rTxt s).1, sU s 0 (rTxt s).2)
theorem v_read {n : Int} {s : Mem} (hW : WS n s) : cOK miX5_read [zr 0] s (r_read s) := by
  intro D P hC hP
  unfold r_read at hP
  obtain ⟨x, hx⟩ := hC.1.2.1
  have hT : zTx D s := ⟨hW.2.1.1, hC.2.1.1, hC.2.1.2⟩
  refine e_X5_read ?_
  simp only [tX5_read_0, w_ic, w_lc, w_lds, w_ild, w_lld, w_ald, w_ist, w_lst, w_ast, w_iinc, w_iadd, w_isub, w_imul, w_idiv, w_irem, w_iand, w_ior, w_ixor, w_ishl, w_ishr, w_iushr, w_ineg, w_ladd, w_lsub, w_lmul, w_ldiv, w_lrem, w_lcmp, w_i2l, w_l2i, w_dup, w_pop, w_dup2, w_ieq, w_zeq, w_ine, w_zne, w_ilt, w_zlt, w_ige, w_zge, w_igt, w_zgt, w_ile, w_zle, w_cut, w_tsw, zsw, w_iret, w_zret, w_lret, w_vret, w_nret, w_getI, w_getJ, w_getR, w_putI, w_putZ, w_putJ, w_iald, w_zald, w_iast, w_zast, w_alen, w_sI, w_sJ, w_sV, w_vI, w_vJ, w_vV, w_tI, w_mmax, w_mmin, w_mabs, w_lmax, w_acopy, gL, sL, kl_i, kl_l, kl_r, kl_s, kl_m, qI_i, qJ_l, qA_r, qA_s, pI_i, pJ_l, pA_r, pS_s, pM_m, pV_v, c1_i, c1_r, c1_s, c1_m, cS_0, cS_i, cS_l, cS_r, cS_s, cS_m, pN, z_rc_r, zE1, zE2, zE3, true_and, and_true, Nat.zero_add, Nat.reduceAdd, Nat.reduceLeDiff, true_or, or_true, q0, qp4, qp5, qp8, qp9, qf0, qz0, qf1, qz1, qf2, qz2, qf3, qz3, qf6, qz6, qf7, qz7, qf10, qz10, qf11, qz11, qf12, qz12, qf13, qz13, qf14, qz14, k1o, k1m, k1f0, k1z0, k1f1, k1z1, k1f2, k1z2, k1f3, k1z3, k1f4, k1z4, k1f5, k1z5, k1f6, k1z6, k1f7, k1z7, k1r0, k1r1, k1r2, k1r3, k1r4, k1r5, k1r6, k1w, k109, k109a, k109b, k109c, k109d, k109e, k109f, k109g, kr110, kr112, kr114, kr116, kr118, kr120, kr122]
  refine c_readInto hT hx fun D1 a1 a2 a3 a4 a5 => ?_
  obtain ⟨M, y, hM, hy, he⟩ := a3
  have c1 := hC.rd a1 a2 (hy.up (show M ≤ 20000 by omega))
  have f1 : Fr 0 124 D D1 := fun o ho => a1 o (by omega) (by omega)
  refine ⟨fun q => ?_, fun q => ?_⟩
  · rw [cIf_t q] at hP
    exact hP D1 f1 c1
  · rw [cIf_f q] at hP
    refine c_take bk1 bk2 (by decide) c1.1.1 hy fun D2 d1 d2 => ?_
    rw [he (by omega)] at d2
    exact hP D2 (f1.trans (d1.wide (by omega) (by omega))) (c1.now (d1.wide (by omega) (by omega)) (d2.up hM))
