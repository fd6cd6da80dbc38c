/-! ===== 40: the class reads: items ===== -/
def zFd (D D' : Mem) : Prop := ∀ o, (o < 28 ∨ 55 ≤ o) → o ≠ 109 → D' o = D o
theorem zFd.trans {D D1 D2 : Mem} (h : zFd D D1) (h2 : zFd D1 D2) : zFd D D2 := fun o a b => (h2 o a b).trans (h o a b)
abbrev IR : Type := Int × (Int → Int) × Int
noncomputable def rLad (s : Mem) (a : Int → Int) (p st : Int) : IR := cIf (a 0 = 6) (0, a, st) (cIf (isNum s p 0 15 ∧ ∀ k, 0 ≤ k → k < a 0 → a (4 + k) ≠ tNm s p) (1, sAddL a (tNm s p), tEn s p) (0, a, tSt s p))
noncomputable def rGoe (s : Mem) (a : Int → Int) (p st : Int) : IR := cIf (a 1 = 6) (0, a, st) (cIf (isNum s p 0 5) (cIf (isNum s (tEn s p) 0 19) (cIf (isNum s (tEn s (tEn s p)) 0 19) (1, sAddG a (tNm s p) (tNm s (tEn s p)) (tNm s (tEn s (tEn s p))), tEn s (tEn s (tEn s p))) (0, a, tSt s (tEn s (tEn s p)))) (0, a, tSt s (tEn s p))) (0, a, tSt s p))
noncomputable def rWin (s : Mem) (a : Int → Int) (p st : Int) : IR := cIf (a 2 = 4) (0, a, st) (cIf (isNum s p 0 5) (cIf (isNum s (tEn s p) 0 19) (1, sAddW a (tNm s p) (tNm s (tEn s p)), tEn s (tEn s p)) (0, a, tSt s (tEn s p))) (0, a, tSt s p))
noncomputable def rTur (s : Mem) (a : Int → Int) (p : Int) : IR := cIf (isNum s p 0 (a 1 - 1)) (1, zA a (40 + tNm s p) (1 - a (40 + tNm s p)), tEn s p) (0, a, tSt s p)
noncomputable def rDra (s : Mem) (a : Int → Int) (p : Int) : IR := cIf (isNum s p 0 (a 0 - 1)) (1, zA a (10 + tNm s p) (1 - a (10 + tNm s p)), tEn s p) (0, a, tSt s p)
noncomputable def rMin (s : Mem) (a : Int → Int) (p : Int) : IR := cIf (isNum s p 1 99) (1, sPs (tNm s p).toNat a, tEn s p) (0, a, tSt s p)
/-- what an item must come to -/
def zIt (M : Int) (D s : Mem) (p : Int) (r : IR) (P : Int → Mem → Prop) : Prop := (r.1 = 1 → ∀ D', zFd D D' → zTx D' s → D' 109 2 = r.2.2 → BK (M + 99) D' 28 r.2.1 → r.2.1 120 = 0 → (p < r.2.2 ∧ r.2.2 ≤ s 4 0) → P 1 D') ∧ (r.1 = 0 → ∀ D', zFd D D' → zTx D' s → D' 109 3 = r.2.2 → (∃ x, BK (M + 99) D' 28 x) → (0 ≤ r.2.2 ∧ r.2.2 ≤ s 4 0) → P 0 D')
theorem BK.up {M M' : Int} {D : Mem} {b : Nat} {a : Int → Int} (h : BK M D b a) (hM : M ≤ M') : BK M' D b a := h.mono (h.2.2.1.up hM)
theorem zFd.rd {D D' : Mem} (h : ∀ o, o ≠ 109 → D' o = D o) : zFd D D' := fun o _ b => h o b
theorem zFd.sp {D D' : Mem} (h : Fr 28 50 D D') : zFd D D' := fun o a _ => h o (by omega)
theorem zFd.sp2 {D D' : Mem} (h : Fr 28 55 D D') : zFd D D' := fun o a _ => h o (by omega)
theorem zTx.rd {D D' s : Mem} (h : zTx D s) (hf : ∀ o, o ≠ 109 → D' o = D o) (h1 : D' 109 1 = s 4 0) : zTx D' s := h.of (hf 111 (by decide)) (by rw [h1]; exact h.2.1.symm)
theorem zTx.sp {D D' s : Mem} (h : zTx D s) (hf : Fr 28 55 D D') : zTx D' s := h.of (hf 111 (by decide)) (by rw [hf 109 (by decide)])
theorem c_readLadder {M : Int} {D s : Mem} {a : Int → Int} {p st : Int} {P : Int → Mem → Prop} (hT : zTx D s) (hB : BK M D 28 a) (ha : a 120 = 0) (hp : D 109 2 = p) (h3 : D 109 3 = st) (p0 : 0 ≤ p) (p1 : p ≤ s 4 0) (s0 : 0 ≤ st) (s1 : st ≤ p) (hP : zIt M D s p (rLad s a p st) P) : zC miX1_readLadder [zr 109, zr 28] D P := by
  have n0 := hB.2.2.1.n0
  unfold rLad at hP
  refine e_X1_readLadder ?_
  simp only [tX1_readLadder_0, w_ic, w_lc, w_lds, w_ild, w_lld, w_ald, w_ist, w_lst, w_ast, w_iinc, w_iadd, w_isub, w_imul, w_idiv, w_irem, w_iand, w_ior, w_ixor, w_ishl, w_ishr, w_iushr, w_ineg, w_ladd, w_lsub, w_lmul, w_ldiv, w_lrem, w_lcmp, w_i2l, w_l2i, w_dup, w_pop, w_dup2, w_ieq, w_zeq, w_ine, w_zne, w_ilt, w_zlt, w_ige, w_zge, w_igt, w_zgt, w_ile, w_zle, w_cut, w_tsw, zsw, w_iret, w_zret, w_lret, w_vret, w_nret, w_getI, w_getJ, w_getR, w_putI, w_putZ, w_putJ, w_iald, w_zald, w_iast, w_zast, w_alen, w_sI, w_sJ, w_sV, w_vI, w_vJ, w_vV, w_tI, w_mmax, w_mmin, w_mabs, w_lmax, w_acopy, gL, sL, kl_i, kl_l, kl_r, kl_s, kl_m, qI_i, qJ_l, qA_r, qA_s, pI_i, pJ_l, pA_r, pS_s, pM_m, pV_v, c1_i, c1_r, c1_s, c1_m, cS_0, cS_i, cS_l, cS_r, cS_s, cS_m, pN, z_rc_r, zE1, zE2, zE3, true_and, and_true, Nat.zero_add, Nat.reduceAdd, Nat.reduceLeDiff, true_or, or_true, q0, qp4, qp5, qp8, qp9, qf0, qz0, qf1, qz1, qf2, qz2, qf3, qz3, qf6, qz6, qf7, qz7, qf10, qz10, qf11, qz11, qf12, qz12, qf13, qz13, qf14, qz14, k1o, k1m, k1f0, k1z0, k1f1, k1z1, k1f2, k1z2, k1f3, k1z3, k1f4, k1z4, k1f5, k1z5, k1f6, k1z6, k1f7, k1z7, k1r0, k1r1, k1r2, k1r3, k1r4, k1r5, k1r6, k1w, k109, k109a, k109b, k109c, k109d, k109e, k109f, k109g, kr110, kr112, kr114, kr116, kr118, kr120, kr122, bk2.o, bk2.fr0, bk2.zf0, bk2.r0.o]
  refine c_Rows_isFull bk2.r0 (fun q => ⟨fun _ => ?_, fun w => absurd (by decide) w⟩) (fun q => ⟨fun w => absurd rfl w, fun _ => ?_⟩)
  · rw [hB.1.1.1, hB.2.1.1.1] at q
    rw [cIf_t (show a 0 = 6 by omega)] at hP
    exact hP.2 rfl D (fun _ _ _ => rfl) hT h3 ⟨a, hB.up (by omega)⟩ ⟨s0, by show st ≤ _; omega⟩
  · rw [hB.1.1.1, hB.2.1.1.1] at q
    rw [cIf_f (show ¬ a 0 = 6 by omega)] at hP
    refine c_nextIsNumber hT hp p0 p1 (fun hn D' e1 e2 e3 e4 e5 e6 => ⟨fun _ => ?_, fun w => absurd (by decide) w⟩) (fun hn D' e1 e2 e4 e6 => ⟨fun w => absurd rfl w, fun _ => ?_⟩)
    · have hB' : BK M D' 28 a := hB.out fun o _ _ => e1 o (by omega)
      rw [e5]
      refine c_hasLadder bk2 hB' (fun hk => ⟨fun w => absurd w (by decide), fun _ => ?_⟩) (fun hk => ⟨fun _ => ?_, fun w => absurd rfl w⟩)
      · obtain ⟨k, k0, k1, k2⟩ := hk
        rw [cIf_f (fun w => w.2 k k0 k1 k2)] at hP
        exact hP.2 rfl D' (zFd.rd e1) (hT.rd e1 e2) e4 ⟨a, hB'.up (by omega)⟩ ⟨by show 0 ≤ tSt s p; omega, by show tSt s p ≤ _; omega⟩
      · rw [cIf_t ⟨hn, hk⟩] at hP
        rw [e5]
        refine c_addLadder bk2 hB' (by omega) ⟨hn.2.2.1, by have := hn.2.2.2; omega⟩ ha fun D2 d1 d2 => ?_
        refine hP.1 rfl D2 ((zFd.rd e1).trans (zFd.sp d1)) ((hT.rd e1 e2).sp (d1.wide (by omega) (by omega))) (by rw [d1 109 (by decide)]; exact e3) (d2.up (by omega)) ?_ ⟨by show p < tEn s p; omega, e6.2.2⟩
        show sAddL a (tNm s p) 120 = 0
        rw [sAddL_n n0.1 (by omega) (by omega) (by omega) (by omega)]
        exact ha
    · rw [cIf_f (fun w => hn w.1)] at hP
      exact hP.2 rfl D' (zFd.rd e1) (hT.rd e1 e2) e4 ⟨a, (hB.out fun o _ _ => e1 o (by omega)).up (by omega)⟩ ⟨by show 0 ≤ tSt s p; omega, e6.2⟩
theorem c_readTurn {M : Int} {D s : Mem} {a : Int → Int} {p : Int} {P : Int → Mem → Prop} (hT : zTx D s) (hB : BK M D 28 a) (ha : a 120 = 0) (hp : D 109 2 = p) (p0 : 0 ≤ p) (p1 : p ≤ s 4 0) (hP : zIt M D s p (rTur s a p) P) : zC miX1_readTurn [zr 109, zr 28] D P := by
  have n1 := hB.2.2.1.n1
  unfold rTur at hP
  refine e_X1_readTurn ?_
  simp only [tX1_readTurn_0, w_ic, w_lc, w_lds, w_ild, w_lld, w_ald, w_ist, w_lst, w_ast, w_iinc, w_iadd, w_isub, w_imul, w_idiv, w_irem, w_iand, w_ior, w_ixor, w_ishl, w_ishr, w_iushr, w_ineg, w_ladd, w_lsub, w_lmul, w_ldiv, w_lrem, w_lcmp, w_i2l, w_l2i, w_dup, w_pop, w_dup2, w_ieq, w_zeq, w_ine, w_zne, w_ilt, w_zlt, w_ige, w_zge, w_igt, w_zgt, w_ile, w_zle, w_cut, w_tsw, zsw, w_iret, w_zret, w_lret, w_vret, w_nret, w_getI, w_getJ, w_getR, w_putI, w_putZ, w_putJ, w_iald, w_zald, w_iast, w_zast, w_alen, w_sI, w_sJ, w_sV, w_vI, w_vJ, w_vV, w_tI, w_mmax, w_mmin, w_mabs, w_lmax, w_acopy, gL, sL, kl_i, kl_l, kl_r, kl_s, kl_m, qI_i, qJ_l, qA_r, qA_s, pI_i, pJ_l, pA_r, pS_s, pM_m, pV_v, c1_i, c1_r, c1_s, c1_m, cS_0, cS_i, cS_l, cS_r, cS_s, cS_m, pN, z_rc_r, zE1, zE2, zE3, true_and, and_true, Nat.zero_add, Nat.reduceAdd, Nat.reduceLeDiff, true_or, or_true, q0, qp4, qp5, qp8, qp9, qf0, qz0, qf1, qz1, qf2, qz2, qf3, qz3, qf6, qz6, qf7, qz7, qf10, qz10, qf11, qz11, qf12, qz12, qf13, qz13, qf14, qz14, k1o, k1m, k1f0, k1z0, k1f1, k1z1, k1f2, k1z2, k1f3, k1z3, k1f4, k1z4, k1f5, k1z5, k1f6, k1z6, k1f7, k1z7, k1r0, k1r1, k1r2, k1r3, k1r4, k1r5, k1r6, k1w, k109, k109a, k109b, k109c, k109d, k109e, k109f, k109g, kr110, kr112, kr114, kr116, kr118, kr120, kr122, bk2.o, bk2.fr1, bk2.zf1, bk2.r1.o]
  refine c_gsize bk2 hB ⟨⟨by omega, by omega⟩, ?_⟩
  refine c_nextIsNumber hT hp p0 p1 (fun hn D' e1 e2 e3 e4 e5 e6 => ⟨fun _ => ?_, fun w => absurd (by decide) w⟩) (fun hn D' e1 e2 e4 e6 => ⟨fun w => absurd rfl w, fun _ => ?_⟩)
  · have hB' : BK M D' 28 a := hB.out fun o _ _ => e1 o (by omega)
    rw [cIf_t hn] at hP
    rw [e5]
    have h0 := hn.2.2.1
    have h1 := hn.2.2.2
    refine c_turnGoer bk2 hB' h0 (by omega) fun D2 d1 d2 => ?_
    refine hP.1 rfl D2 ((zFd.rd e1).trans (zFd.sp d1)) ((hT.rd e1 e2).sp (d1.wide (by omega) (by omega))) (by rw [d1 109 (by decide)]; exact e3) (d2.up (by omega)) ?_ ⟨by show p < tEn s p; omega, e6.2.2⟩
    show zA a (40 + tNm s p) (1 - a (40 + tNm s p)) 120 = 0
    rw [zA_n (by omega)]
    exact ha
  · rw [cIf_f hn] at hP
    exact hP.2 rfl D' (zFd.rd e1) (hT.rd e1 e2) e4 ⟨a, (hB.out fun o _ _ => e1 o (by omega)).up (by omega)⟩ ⟨by show 0 ≤ tSt s p; omega, e6.2⟩
theorem c_readDraw {M : Int} {D s : Mem} {a : Int → Int} {p : Int} {P : Int → Mem → Prop} (hT : zTx D s) (hB : BK M D 28 a) (ha : a 120 = 0) (hp : D 109 2 = p) (p0 : 0 ≤ p) (p1 : p ≤ s 4 0) (hP : zIt M D s p (rDra s a p) P) : zC miX1_readDraw [zr 109, zr 28] D P := by
  have n1 := hB.2.2.1.n0
  unfold rDra at hP
  refine e_X1_readDraw ?_
  simp only [tX1_readDraw_0, w_ic, w_lc, w_lds, w_ild, w_lld, w_ald, w_ist, w_lst, w_ast, w_iinc, w_iadd, w_isub, w_imul, w_idiv, w_irem, w_iand, w_ior, w_ixor, w_ishl, w_ishr, w_iushr, w_ineg, w_ladd, w_lsub, w_lmul, w_ldiv, w_lrem, w_lcmp, w_i2l, w_l2i, w_dup, w_pop, w_dup2, w_ieq, w_zeq, w_ine, w_zne, w_ilt, w_zlt, w_ige, w_zge, w_igt, w_zgt, w_ile, w_zle, w_cut, w_tsw, zsw, w_iret, w_zret, w_lret, w_vret, w_nret, w_getI, w_getJ, w_getR, w_putI, w_putZ, w_putJ, w_iald, w_zald, w_iast, w_zast, w_alen, w_sI, w_sJ, w_sV, w_vI, w_vJ, w_vV, w_tI, w_mmax, w_mmin, w_mabs, w_lmax, w_acopy, gL, sL, kl_i, kl_l, kl_r, kl_s, kl_m, qI_i, qJ_l, qA_r, qA_s, pI_i, pJ_l, pA_r, pS_s, pM_m, pV_v, c1_i, c1_r, c1_s, c1_m, cS_0, cS_i, cS_l, cS_r, cS_s, cS_m, pN, z_rc_r, zE1, zE2, zE3, true_and, and_true, Nat.zero_add, Nat.reduceAdd, Nat.reduceLeDiff, true_or, or_true, q0, qp4, qp5, qp8, qp9, qf0, qz0, qf1, qz1, qf2, qz2, qf3, qz3, qf6, qz6, qf7, qz7, qf10, qz10, qf11, qz11, qf12, qz12, qf13, qz13, qf14, qz14, k1o, k1m, k1f0, k1z0, k1f1, k1z1, k1f2, k1z2, k1f3, k1z3, k1f4, k1z4, k1f5, k1z5, k1f6, k1z6, k1f7, k1z7, k1r0, k1r1, k1r2, k1r3, k1r4, k1r5, k1r6, k1w, k109, k109a, k109b, k109c, k109d, k109e, k109f, k109g, kr110, kr112, kr114, kr116, kr118, kr120, kr122, bk2.o, bk2.fr0, bk2.zf0, bk2.r0.o]
  refine c_lsize bk2 hB ⟨⟨by omega, by omega⟩, ?_⟩
  refine c_nextIsNumber hT hp p0 p1 (fun hn D' e1 e2 e3 e4 e5 e6 => ⟨fun _ => ?_, fun w => absurd (by decide) w⟩) (fun hn D' e1 e2 e4 e6 => ⟨fun w => absurd rfl w, fun _ => ?_⟩)
  · have hB' : BK M D' 28 a := hB.out fun o _ _ => e1 o (by omega)
    rw [cIf_t hn] at hP
    rw [e5]
    have h0 := hn.2.2.1
    have h1 := hn.2.2.2
    refine c_drawLadder bk2 hB' h0 (by omega) fun D2 d1 d2 => ?_
    refine hP.1 rfl D2 ((zFd.rd e1).trans (zFd.sp d1)) ((hT.rd e1 e2).sp (d1.wide (by omega) (by omega))) (by rw [d1 109 (by decide)]; exact e3) (d2.up (by omega)) ?_ ⟨by show p < tEn s p; omega, e6.2.2⟩
    show zA a (10 + tNm s p) (1 - a (10 + tNm s p)) 120 = 0
    rw [zA_n (by omega)]
    exact ha
  · rw [cIf_f hn] at hP
    exact hP.2 rfl D' (zFd.rd e1) (hT.rd e1 e2) e4 ⟨a, (hB.out fun o _ _ => e1 o (by omega)).up (by omega)⟩ ⟨by show 0 ≤ tSt s p; omega, e6.2⟩
theorem c_readMinutes {M : Int} {D s : Mem} {a : Int → Int} {p : Int} {P : Int → Mem → Prop} (hM : 0 ≤ M) (hM2 : M ≤ 1000000) (hT : zTx D s) (hB : BK M D 28 a) (ha : a 120 = 0) (hp : D 109 2 = p) (p0 : 0 ≤ p) (p1 : p ≤ s 4 0) (hP : zIt M D s p (rMin s a p) P) : zC miX1_readMinutes [zr 109, zr 28] D P := by
  unfold rMin at hP
  refine e_X1_readMinutes ?_
  simp only [tX1_readMinutes_0, w_ic, w_lc, w_lds, w_ild, w_lld, w_ald, w_ist, w_lst, w_ast, w_iinc, w_iadd, w_isub, w_imul, w_idiv, w_irem, w_iand, w_ior, w_ixor, w_ishl, w_ishr, w_iushr, w_ineg, w_ladd, w_lsub, w_lmul, w_ldiv, w_lrem, w_lcmp, w_i2l, w_l2i, w_dup, w_pop, w_dup2, w_ieq, w_zeq, w_ine, w_zne, w_ilt, w_zlt, w_ige, w_zge, w_igt, w_zgt, w_ile, w_zle, w_cut, w_tsw, zsw, w_iret, w_zret, w_lret, w_vret, w_nret, w_getI, w_getJ, w_getR, w_putI, w_putZ, w_putJ, w_iald, w_zald, w_iast, w_zast, w_alen, w_sI, w_sJ, w_sV, w_vI, w_vJ, w_vV, w_tI, w_mmax, w_mmin, w_mabs, w_lmax, w_acopy, gL, sL, kl_i, kl_l, kl_r, kl_s, kl_m, qI_i, qJ_l, qA_r, qA_s, pI_i, pJ_l, pA_r, pS_s, pM_m, pV_v, c1_i, c1_r, c1_s, c1_m, cS_0, cS_i, cS_l, cS_r, cS_s, cS_m, pN, z_rc_r, zE1, zE2, zE3, true_and, and_true, Nat.zero_add, Nat.reduceAdd, Nat.reduceLeDiff, true_or, or_true, q0, qp4, qp5, qp8, qp9, qf0, qz0, qf1, qz1, qf2, qz2, qf3, qz3, qf6, qz6, qf7, qz7, qf10, qz10, qf11, qz11, qf12, qz12, qf13, qz13, qf14, qz14, k1o, k1m, k1f0, k1z0, k1f1, k1z1, k1f2, k1z2, k1f3, k1z3, k1f4, k1z4, k1f5, k1z5, k1f6, k1z6, k1f7, k1z7, k1r0, k1r1, k1r2, k1r3, k1r4, k1r5, k1r6, k1w, k109, k109a, k109b, k109c, k109d, k109e, k109f, k109g, kr110, kr112, kr114, kr116, kr118, kr120, kr122, bk2.o]
  refine c_nextIsNumber hT hp p0 p1 (fun hn D' e1 e2 e3 e4 e5 e6 => ⟨fun _ => ?_, fun w => absurd (by decide) w⟩) (fun hn D' e1 e2 e4 e6 => ⟨fun w => absurd rfl w, fun _ => ?_⟩)
  · have hB' : BK M D' 28 a := hB.out fun o _ _ => e1 o (by omega)
    rw [cIf_t hn] at hP
    rw [e5]
    have h0 := hn.2.2.1
    have h1 := hn.2.2.2
    refine c_pass bk2 hB' hM hM2 h1 fun D2 d1 d2 => ?_
    refine hP.1 rfl D2 ((zFd.rd e1).trans (zFd.sp2 d1)) ((hT.rd e1 e2).sp d1) (by rw [d1 109 (by decide)]; exact e3) (d2.up (by omega)) ?_ ⟨by show p < tEn s p; omega, e6.2.2⟩
    show sPs (tNm s p).toNat a 120 = 0
    rw [sPs_n (by omega) hB.2.2.1.n1.2 (by omega)]
    exact ha
  · rw [cIf_f hn] at hP
    exact hP.2 rfl D' (zFd.rd e1) (hT.rd e1 e2) e4 ⟨a, (hB.out fun o _ _ => e1 o (by omega)).up (by omega)⟩ ⟨by show 0 ≤ tSt s p; omega, e6.2⟩
theorem c_readGoer {M : Int} {D s : Mem} {a : Int → Int} {p st : Int} {P : Int → Mem → Prop} (hT : zTx D s) (hB : BK M D 28 a) (ha : a 120 = 0) (hp : D 109 2 = p) (h3 : D 109 3 = st) (p0 : 0 ≤ p) (p1 : p ≤ s 4 0) (s0 : 0 ≤ st) (s1 : st ≤ p) (hP : zIt M D s p (rGoe s a p st) P) : zC miX1_readGoer [zr 109, zr 28] D P := by
  have n0 := hB.2.2.1.n1
  unfold rGoe at hP
  refine e_X1_readGoer ?_
  simp only [tX1_readGoer_0, w_ic, w_lc, w_lds, w_ild, w_lld, w_ald, w_ist, w_lst, w_ast, w_iinc, w_iadd, w_isub, w_imul, w_idiv, w_irem, w_iand, w_ior, w_ixor, w_ishl, w_ishr, w_iushr, w_ineg, w_ladd, w_lsub, w_lmul, w_ldiv, w_lrem, w_lcmp, w_i2l, w_l2i, w_dup, w_pop, w_dup2, w_ieq, w_zeq, w_ine, w_zne, w_ilt, w_zlt, w_ige, w_zge, w_igt, w_zgt, w_ile, w_zle, w_cut, w_tsw, zsw, w_iret, w_zret, w_lret, w_vret, w_nret, w_getI, w_getJ, w_getR, w_putI, w_putZ, w_putJ, w_iald, w_zald, w_iast, w_zast, w_alen, w_sI, w_sJ, w_sV, w_vI, w_vJ, w_vV, w_tI, w_mmax, w_mmin, w_mabs, w_lmax, w_acopy, gL, sL, kl_i, kl_l, kl_r, kl_s, kl_m, qI_i, qJ_l, qA_r, qA_s, pI_i, pJ_l, pA_r, pS_s, pM_m, pV_v, c1_i, c1_r, c1_s, c1_m, cS_0, cS_i, cS_l, cS_r, cS_s, cS_m, pN, z_rc_r, zE1, zE2, zE3, true_and, and_true, Nat.zero_add, Nat.reduceAdd, Nat.reduceLeDiff, true_or, or_true, q0, qp4, qp5, qp8, qp9, qf0, qz0, qf1, qz1, qf2, qz2, qf3, qz3, qf6, qz6, qf7, qz7, qf10, qz10, qf11, qz11, qf12, qz12, qf13, qz13, qf14, qz14, k1o, k1m, k1f0, k1z0, k1f1, k1z1, k1f2, k1z2, k1f3, k1z3, k1f4, k1z4, k1f5, k1z5, k1f6, k1z6, k1f7, k1z7, k1r0, k1r1, k1r2, k1r3, k1r4, k1r5, k1r6, k1w, k109, k109a, k109b, k109c, k109d, k109e, k109f, k109g, kr110, kr112, kr114, kr116, kr118, kr120, kr122, bk2.o, bk2.fr1, bk2.zf1, bk2.r1.o]
  refine c_Rows_isFull bk2.r1 (fun q => ⟨fun _ => ?_, fun w => absurd (by decide) w⟩) (fun q => ⟨fun w => absurd rfl w, fun _ => ?_⟩)
  · rw [hB.1.2.1.1, hB.2.1.1.2.1] at q
    rw [cIf_t (show a 1 = 6 by omega)] at hP
    exact hP.2 rfl D (fun _ _ _ => rfl) hT h3 ⟨a, hB.up (by omega)⟩ ⟨s0, by show st ≤ _; omega⟩
  · rw [hB.1.2.1.1, hB.2.1.1.2.1] at q
    rw [cIf_f (show ¬ a 1 = 6 by omega)] at hP
    refine c_nextIsNumber hT hp p0 p1 (fun hn D1 e1 e2 e3 e4 e5 e6 => ⟨fun _ => ?_, fun w => absurd (by decide) w⟩) (fun hn D' e1 e2 e4 e6 => ⟨fun w => absurd rfl w, fun _ => ?_⟩)
    · have hT1 := hT.rd e1 e2
      rw [cIf_t hn] at hP
      rw [e5]
      refine c_nextIsNumber hT1 e3 (by omega) e6.2.2 (fun hn2 D2 f1 f2 f3 f4 f5 f6 => ⟨fun _ => ?_, fun w => absurd (by decide) w⟩) (fun hn2 D' f1 f2 f4 f6 => ⟨fun w => absurd rfl w, fun _ => ?_⟩)
      · have hT2 := hT1.rd f1 f2
        rw [cIf_t hn2] at hP
        rw [f5]
        refine c_nextIsNumber hT2 f3 (by omega) f6.2.2 (fun hn3 D3 g1 g2 g3 g4 g5 g6 => ⟨fun _ => ?_, fun w => absurd (by decide) w⟩) (fun hn3 D' g1 g2 g4 g6 => ⟨fun w => absurd rfl w, fun _ => ?_⟩)
        · rw [cIf_t hn3] at hP
          rw [g5]
          have hB' : BK M D3 28 a := hB.out fun o _ _ => by rw [g1 o (by omega), f1 o (by omega), e1 o (by omega)]
          refine c_addGoer bk2 hB' (by omega) ⟨hn.2.2.1, by have := hn.2.2.2; omega⟩ ⟨hn2.2.2.1, by have := hn2.2.2.2; omega⟩ ⟨hn3.2.2.1, by have := hn3.2.2.2; omega⟩ ha fun D4 d1 d2 => ?_
          refine hP.1 rfl D4 ((((zFd.rd e1).trans (zFd.rd f1)).trans (zFd.rd g1)).trans (zFd.sp d1)) ((hT2.rd g1 g2).sp (d1.wide (by omega) (by omega))) (by rw [d1 109 (by decide)]; exact g3) (d2.up (by omega)) ?_ ⟨by show p < tEn s (tEn s (tEn s p)); omega, g6.2.2⟩
          show sAddG a (tNm s p) (tNm s (tEn s p)) (tNm s (tEn s (tEn s p))) 120 = 0
          rw [sAddG_n (by omega) (by omega) (by omega) (by omega) (by omega) (by omega)]
          exact ha
        · rw [cIf_f hn3] at hP
          exact hP.2 rfl D' (((zFd.rd e1).trans (zFd.rd f1)).trans (zFd.rd g1)) (hT2.rd g1 g2) g4 ⟨a, (hB.out fun o _ _ => by rw [g1 o (by omega), f1 o (by omega), e1 o (by omega)]).up (by omega)⟩ ⟨by show 0 ≤ tSt s _; omega, g6.2⟩
      · rw [cIf_f hn2] at hP
        exact hP.2 rfl D' ((zFd.rd e1).trans (zFd.rd f1)) (hT1.rd f1 f2) f4 ⟨a, (hB.out fun o _ _ => by rw [f1 o (by omega), e1 o (by omega)]).up (by omega)⟩ ⟨by show 0 ≤ tSt s _; omega, f6.2⟩
    · rw [cIf_f hn] at hP
      exact hP.2 rfl D' (zFd.rd e1) (hT.rd e1 e2) e4 ⟨a, (hB.out fun o _ _ => e1 o (by omega)).up (by omega)⟩ ⟨by show 0 ≤ tSt s p; omega, e6.2⟩
theorem c_readWindow {M : Int} {D s : Mem} {a : Int → Int} {p st : Int} {P : Int → Mem → Prop} (hT : zTx D s) (hB : BK M D 28 a) (ha : a 120 = 0) (hp : D 109 2 = p) (h3 : D 109 3 = st) (p0 : 0 ≤ p) (p1 : p ≤ s 4 0) (s0 : 0 ≤ st) (s1 : st ≤ p) (hP : zIt M D s p (rWin s a p st) P) : zC miX1_readWindow [zr 109, zr 28] D P := by
  have n0 := hB.2.2.1.n2
  unfold rWin at hP
  refine e_X1_readWindow ?_
  simp only [tX1_readWindow_0, w_ic, w_lc, w_lds, w_ild, w_lld, w_ald, w_ist, w_lst, w_ast, w_iinc, w_iadd, w_isub, w_imul, w_idiv, w_irem, w_iand, w_ior, w_ixor, w_ishl, w_ishr, w_iushr, w_ineg, w_ladd, w_lsub, w_lmul, w_ldiv, w_lrem, w_lcmp, w_i2l, w_l2i, w_dup, w_pop, w_dup2, w_ieq, w_zeq, w_ine, w_zne, w_ilt, w_zlt, w_ige, w_zge, w_igt, w_zgt, w_ile, w_zle, w_cut, w_tsw, zsw, w_iret, w_zret, w_lret, w_vret, w_nret, w_getI, w_getJ, w_getR, w_putI, w_putZ, w_putJ, w_iald, w_zald, w_iast, w_zast, w_alen, w_sI, w_sJ, w_sV, w_vI, w_vJ, w_vV, w_tI, w_mmax, w_mmin, w_mabs, w_lmax, w_acopy, gL, sL, kl_i, kl_l, kl_r, kl_s, kl_m, qI_i, qJ_l, qA_r, qA_s, pI_i, pJ_l, pA_r, pS_s, pM_m, pV_v, c1_i, c1_r, c1_s, c1_m, cS_0, cS_i, cS_l, cS_r, cS_s, cS_m, pN, z_rc_r, zE1, zE2, zE3, true_and, and_true, Nat.zero_add, Nat.reduceAdd, Nat.reduceLeDiff, true_or, or_true, q0, qp4, qp5, qp8, qp9, qf0, qz0, qf1, qz1, qf2, qz2, qf3, qz3, qf6, qz6, qf7, qz7, qf10, qz10, qf11, qz11, qf12, qz12, qf13, qz13, qf14, qz14, k1o, k1m, k1f0, k1z0, k1f1, k1z1, k1f2, k1z2, k1f3, k1z3, k1f4, k1z4, k1f5, k1z5, k1f6, k1z6, k1f7, k1z7, k1r0, k1r1, k1r2, k1r3, k1r4, k1r5, k1r6, k1w, k109, k109a, k109b, k109c, k109d, k109e, k109f, k109g, kr110, kr112, kr114, kr116, kr118, kr120, kr122, bk2.o, bk2.fr2, bk2.zf2, bk2.r2.o]
  refine c_Rows_isFull bk2.r2 (fun q => ⟨fun _ => ?_, fun w => absurd (by decide) w⟩) (fun q => ⟨fun w => absurd rfl w, fun _ => ?_⟩)
  · rw [hB.1.2.2.1.1, hB.2.1.1.2.2.1] at q
    rw [cIf_t (show a 2 = 4 by omega)] at hP
    exact hP.2 rfl D (fun _ _ _ => rfl) hT h3 ⟨a, hB.up (by omega)⟩ ⟨s0, by show st ≤ _; omega⟩
  · rw [hB.1.2.2.1.1, hB.2.1.1.2.2.1] at q
    rw [cIf_f (show ¬ a 2 = 4 by omega)] at hP
    refine c_nextIsNumber hT hp p0 p1 (fun hn D1 e1 e2 e3 e4 e5 e6 => ⟨fun _ => ?_, fun w => absurd (by decide) w⟩) (fun hn D' e1 e2 e4 e6 => ⟨fun w => absurd rfl w, fun _ => ?_⟩)
    · have hT1 := hT.rd e1 e2
      rw [cIf_t hn] at hP
      rw [e5]
      refine c_nextIsNumber hT1 e3 (by omega) e6.2.2 (fun hn2 D2 f1 f2 f3 f4 f5 f6 => ⟨fun _ => ?_, fun w => absurd (by decide) w⟩) (fun hn2 D' f1 f2 f4 f6 => ⟨fun w => absurd rfl w, fun _ => ?_⟩)
      · rw [cIf_t hn2] at hP
        rw [f5]
        have hB' : BK M D2 28 a := hB.out fun o _ _ => by rw [f1 o (by omega), e1 o (by omega)]
        refine c_addWindow bk2 hB' (by omega) ⟨hn.2.2.1, by have := hn.2.2.2; omega⟩ ⟨hn2.2.2.1, by have := hn2.2.2.2; omega⟩ ha fun D4 d1 d2 => ?_
        refine hP.1 rfl D4 (((zFd.rd e1).trans (zFd.rd f1)).trans (zFd.sp d1)) ((hT1.rd f1 f2).sp (d1.wide (by omega) (by omega))) (by rw [d1 109 (by decide)]; exact f3) (d2.up (by omega)) ?_ ⟨by show p < tEn s (tEn s p); omega, f6.2.2⟩
        show sAddW a (tNm s p) (tNm s (tEn s p)) 120 = 0
        rw [sAddW_n (by omega) (by omega) (by omega)]
        exact ha
      · rw [cIf_f hn2] at hP
        exact hP.2 rfl D' ((zFd.rd e1).trans (zFd.rd f1)) (hT1.rd f1 f2) f4 ⟨a, (hB.out fun o _ _ => by rw [f1 o (by omega), e1 o (by omega)]).up (by omega)⟩ ⟨by show 0 ≤ tSt s _; omega, f6.2⟩
    · rw [cIf_f hn] at hP
      exact hP.2 rfl D' (zFd.rd e1) (hT.rd e1 e2) e4 ⟨a, (hB.out fun o _ _ => e1 o (by omega)).up (by omega)⟩ ⟨by show 0 ≤ tSt s p; omega, e6.2⟩
noncomputable def rItm (s : Mem) (a : Int → Int) (tk st en : Int) : IR :=
  cIf (isWd s tk st en 1) (rLad s a en st) (cIf (isWd s tk st en 2) (rGoe s a en st) (cIf (isWd s tk st en 3) (rWin s a en st) (cIf (isWd s tk st en 4) (rTur s a en) (cIf (isWd s tk st en 5) (rDra s a en) (cIf (isWd s tk st en 6) (rMin s a en) (0, a, st))))))
theorem zIt.z {M : Int} {D s : Mem} {p : Int} {r : IR} {P : Int → Mem → Prop} (h : zIt M D s p r P) : zIt M D s p r (fun x D' => (x = 0 ∨ x = 1) ∧ P x D') :=
  ⟨fun w D' a1 a2 a3 a4 a5 a6 => ⟨Or.inr rfl, h.1 w D' a1 a2 a3 a4 a5 a6⟩, fun w D' a1 a2 a3 a4 a5 => ⟨Or.inl rfl, h.2 w D' a1 a2 a3 a4 a5⟩⟩
theorem c_readItem {M : Int} {D s : Mem} {a : Int → Int} {tk st en : Int} {P : Int → Mem → Prop} (hM : 0 ≤ M) (hM2 : M ≤ 1000000) (hT : zTx D s) (hB : BK M D 28 a) (ha : a 120 = 0) (h2 : D 109 2 = en) (h3 : D 109 3 = st) (h4 : D 109 4 = tk) (s0 : 0 ≤ st) (s1 : st ≤ en) (e1 : en ≤ s 4 0) (hP : zIt M D s en (rItm s a tk st en) P) : zC miX1_readItem [zr 109, zr 28] D P := by
  unfold rItm at hP
  refine e_X1_readItem ?_
  simp only [tX1_readItem_0, w_ic, w_lc, w_lds, w_ild, w_lld, w_ald, w_ist, w_lst, w_ast, w_iinc, w_iadd, w_isub, w_imul, w_idiv, w_irem, w_iand, w_ior, w_ixor, w_ishl, w_ishr, w_iushr, w_ineg, w_ladd, w_lsub, w_lmul, w_ldiv, w_lrem, w_lcmp, w_i2l, w_l2i, w_dup, w_pop, w_dup2, w_ieq, w_zeq, w_ine, w_zne, w_ilt, w_zlt, w_ige, w_zge, w_igt, w_zgt, w_ile, w_zle, w_cut, w_tsw, zsw, w_iret, w_zret, w_lret, w_vret, w_nret, w_getI, w_getJ, w_getR, w_putI, w_putZ, w_putJ, w_iald, w_zald, w_iast, w_zast, w_alen, w_sI, w_sJ, w_sV, w_vI, w_vJ, w_vV, w_tI, w_mmax, w_mmin, w_mabs, w_lmax, w_acopy, gL, sL, kl_i, kl_l, kl_r, kl_s, kl_m, qI_i, qJ_l, qA_r, qA_s, pI_i, pJ_l, pA_r, pS_s, pM_m, pV_v, c1_i, c1_r, c1_s, c1_m, cS_0, cS_i, cS_l, cS_r, cS_s, cS_m, pN, z_rc_r, zE1, zE2, zE3, true_and, and_true, Nat.zero_add, Nat.reduceAdd, Nat.reduceLeDiff, true_or, or_true, q0, qp4, qp5, qp8, qp9, qf0, qz0, qf1, qz1, qf2, qz2, qf3, qz3, qf6, qz6, qf7, qz7, qf10, qz10, qf11, qz11, qf12, qz12, qf13, qz13, qf14, qz14, k1o, k1m, k1f0, k1z0, k1f1, k1z1, k1f2, k1z2, k1f3, k1z3, k1f4, k1z4, k1f5, k1z5, k1f6, k1z6, k1f7, k1z7, k1r0, k1r1, k1r2, k1r3, k1r4, k1r5, k1r6, k1w, k109, k109a, k109b, k109c, k109d, k109e, k109f, k109g, kr110, kr112, kr114, kr116, kr118, kr120, kr122]
  refine c_isWord (by decide) hT h2 h3 h4 s0 s1 e1 (fun q => ⟨fun w => absurd w (by decide), fun _ => ?_⟩) (fun q => ⟨fun _ => ?_, fun w => absurd rfl w⟩)
  · rw [cIf_t q] at hP
    exact c_readLadder hT hB ha h2 h3 (by omega) e1 s0 s1 hP.z
  rw [cIf_f q] at hP
  clear q
  refine c_isWord (by decide) hT h2 h3 h4 s0 s1 e1 (fun q => ⟨fun w => absurd w (by decide), fun _ => ?_⟩) (fun q => ⟨fun _ => ?_, fun w => absurd rfl w⟩)
  · rw [cIf_t q] at hP
    exact c_readGoer hT hB ha h2 h3 (by omega) e1 s0 s1 hP.z
  rw [cIf_f q] at hP
  clear q
  refine c_isWord (by decide) hT h2 h3 h4 s0 s1 e1 (fun q => ⟨fun w => absurd w (by decide), fun _ => ?_⟩) (fun q => ⟨fun _ => ?_, fun w => absurd rfl w⟩)
  · rw [cIf_t q] at hP
    exact c_readWindow hT hB ha h2 h3 (by omega) e1 s0 s1 hP.z
  rw [cIf_f q] at hP
  clear q
  refine c_isWord (by decide) hT h2 h3 h4 s0 s1 e1 (fun q => ⟨fun w => absurd w (by decide), fun _ => ?_⟩) (fun q => ⟨fun _ => ?_, fun w => absurd rfl w⟩)
  · rw [cIf_t q] at hP
    exact c_readTurn hT hB ha h2 (by omega) e1 hP.z
  rw [cIf_f q] at hP
  clear q
  refine c_isWord (by decide) hT h2 h3 h4 s0 s1 e1 (fun q => ⟨fun w => absurd w (by decide), fun _ => ?_⟩) (fun q => ⟨fun _ => ?_, fun w => absurd rfl w⟩)
  · rw [cIf_t q] at hP
    exact c_readDraw hT hB ha h2 (by omega) e1 hP.z
  rw [cIf_f q] at hP
  clear q
  refine c_isWord (by decide) hT h2 h3 h4 s0 s1 e1 (fun q => ⟨fun w => absurd w (by decide), fun _ => ?_⟩) (fun q => ⟨fun _ => ?_, fun w => absurd rfl w⟩)
  · rw [cIf_t q] at hP
    refine c_readMinutes hM hM2 hT hB ha h2 (by omega) e1 ?_
    exact ⟨fun w D' a1 a2 a3 a4 a5 a6 => ⟨fun z => absurd z (by decide), fun _ => hP.1 w D' a1 a2 a3 a4 a5 a6⟩, fun w D' a1 a2 a3 a4 a5 => ⟨fun _ => hP.2 w D' a1 a2 a3 a4 a5, fun z => absurd rfl z⟩⟩
  rw [cIf_f q] at hP
  exact hP.2 rfl D (fun _ _ _ => rfl) hT h3 ⟨a, hB.up (by omega)⟩ ⟨s0, by show st ≤ _; omega⟩
