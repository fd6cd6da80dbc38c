/-! ===== 39: the class reads: words, numbers, stops ===== -/
theorem zRn_in {p : Int → Prop} {x k : Int} (h0 : x ≤ k) (h1 : k < zRn p x) : p k := by
  unfold zRn at h1
  rcases zFst_spec (p := fun k => ¬ p (x + k)) 152 with ⟨h, -⟩ | ⟨g0, g1, g2, g3⟩
  · omega
  · have := g3 (k - x) (by omega) (by omega)
    rw [show x + (k - x) = k by omega] at this
    exact Classical.not_not.mp this
theorem sTo_2 {b : Int} (h : sTo b = 2) : 48 ≤ b ∧ b ≤ 57 := by
  unfold sTo at h
  split at h
  · omega
  · split at h
    · assumption
    · split at h <;> omega
theorem tEn_dig {s : Mem} {p : Int} (h : tTo s p = 2) {k : Int} (k0 : tSt s p ≤ k) (k1 : k < tEn s p) : 48 ≤ s 3 k ∧ s 3 k ≤ 57 := by
  have hl : ¬ s 4 0 ≤ tSt s p := fun w => by unfold tTo at h; rw [if_pos w] at h; omega
  unfold tEn at k1
  rw [if_neg hl, if_pos (Or.inr h)] at k1
  have := (zRn_in k0 k1).2
  rw [h] at this
  exact sTo_2 this
def tNu (s : Mem) (p : Int) : Int → Int → Int := fun st en => if en - st = 2 then s 3 (en - 1) - 48 + 10 * (s 3 st - 48) else s 3 (en - 1) - 48
noncomputable def tNm (s : Mem) (p : Int) : Int := tNu s p (tSt s p) (tEn s p)
def isNum (s : Mem) (p lo hi : Int) : Prop := tTo s p = 2 ∧ tEn s p - tSt s p ≤ 2 ∧ lo ≤ tNm s p ∧ tNm s p ≤ hi
theorem c_nextIsStop {D s : Mem} {p : Int} {P : Int → Mem → Prop} (hT : zTx D s) (hp : D 109 2 = p) (p0 : 0 ≤ p) (p1 : p ≤ s 4 0) (h1 : tTo s p = 3 → ∀ D', (∀ o, o ≠ 109 → D' o = D o) → D' 109 1 = s 4 0 → D' 109 2 = tEn s p → D' 109 3 = tSt s p → (p ≤ tSt s p ∧ tSt s p < tEn s p ∧ tEn s p ≤ s 4 0) → P 1 D') (h0 : tTo s p ≠ 3 → ∀ D', (∀ o, o ≠ 109 → D' o = D o) → D' 109 1 = s 4 0 → D' 109 3 = tSt s p → (p ≤ tSt s p ∧ tSt s p ≤ s 4 0) → P 0 D') : zC miX1_nextIsStop [zr 109] D P := by
  refine e_X1_nextIsStop ?_
  simp only [tX1_nextIsStop_0, w_ic, w_lc, w_lds, w_ild, w_lld, w_ald, w_ist, w_lst, w_ast, w_iinc, w_iadd, w_isub, w_imul, w_idiv, w_irem, w_iand, w_ior, w_ixor, w_ishl, w_ishr, w_iushr, w_ineg, w_ladd, w_lsub, w_lmul, w_ldiv, w_lrem, w_lcmp, w_i2l, w_l2i, w_dup, w_pop, w_dup2, w_ieq, w_zeq, w_ine, w_zne, w_ilt, w_zlt, w_ige, w_zge, w_igt, w_zgt, w_ile, w_zle, w_cut, w_tsw, zsw, w_iret, w_zret, w_lret, w_vret, w_nret, w_getI, w_getJ, w_getR, w_putI, w_putZ, w_putJ, w_iald, w_zald, w_iast, w_zast, w_alen, w_sI, w_sJ, w_sV, w_vI, w_vJ, w_vV, w_tI, w_mmax, w_mmin, w_mabs, w_lmax, w_acopy, gL, sL, kl_i, kl_l, kl_r, kl_s, kl_m, qI_i, qJ_l, qA_r, qA_s, pI_i, pJ_l, pA_r, pS_s, pM_m, pV_v, c1_i, c1_r, c1_s, c1_m, cS_0, cS_i, cS_l, cS_r, cS_s, cS_m, pN, z_rc_r, zE1, zE2, zE3, true_and, and_true, Nat.zero_add, Nat.reduceAdd, Nat.reduceLeDiff, true_or, or_true, q0, qp4, qp5, qp8, qp9, qf0, qz0, qf1, qz1, qf2, qz2, qf3, qz3, qf6, qz6, qf7, qz7, qf10, qz10, qf11, qz11, qf12, qz12, qf13, qz13, qf14, qz14, k1o, k1m, k1f0, k1z0, k1f1, k1z1, k1f2, k1z2, k1f3, k1z3, k1f4, k1z4, k1f5, k1z5, k1f6, k1z6, k1f7, k1z7, k1r0, k1r1, k1r2, k1r3, k1r4, k1r5, k1r6, k1w, k109, k109a, k109b, k109c, k109d, k109e, k109f, k109g, kr110, kr112, kr114, kr116, kr118, kr120, kr122]
  refine c_nextToken hT hp p0 p1 fun D' e1 e2 e3 e4 e5 e6 e7 => ?_
  rw [e5]
  exact ⟨fun q => h0 q D' e1 e2 e4 ⟨e7.1, by omega⟩, fun q => h1 (by omega) D' e1 e2 e3 e4 ⟨e7.1, e7.2.2.2 (by omega), e7.2.2.1⟩⟩
theorem c_nextIsNumber {D s : Mem} {p lo hi : Int} {P : Int → Mem → Prop} (hT : zTx D s) (hp : D 109 2 = p) (p0 : 0 ≤ p) (p1 : p ≤ s 4 0) (h1 : isNum s p lo hi → ∀ D', (∀ o, o ≠ 109 → D' o = D o) → D' 109 1 = s 4 0 → D' 109 2 = tEn s p → D' 109 3 = tSt s p → D' 109 5 = tNm s p → (p ≤ tSt s p ∧ tSt s p < tEn s p ∧ tEn s p ≤ s 4 0) → P 1 D') (h0 : ¬ isNum s p lo hi → ∀ D', (∀ o, o ≠ 109 → D' o = D o) → D' 109 1 = s 4 0 → D' 109 3 = tSt s p → (p ≤ tSt s p ∧ tSt s p ≤ s 4 0) → P 0 D') : zC miX1_nextIsNumber [zr 109, zi lo, zi hi] D P := by
  have i150 : ((150 : Nat) : Int) = 150 := rfl
  unfold isNum at h1 h0
  refine e_X1_nextIsNumber ?_
  simp only [tX1_nextIsNumber_0, w_ic, w_lc, w_lds, w_ild, w_lld, w_ald, w_ist, w_lst, w_ast, w_iinc, w_iadd, w_isub, w_imul, w_idiv, w_irem, w_iand, w_ior, w_ixor, w_ishl, w_ishr, w_iushr, w_ineg, w_ladd, w_lsub, w_lmul, w_ldiv, w_lrem, w_lcmp, w_i2l, w_l2i, w_dup, w_pop, w_dup2, w_ieq, w_zeq, w_ine, w_zne, w_ilt, w_zlt, w_ige, w_zge, w_igt, w_zgt, w_ile, w_zle, w_cut, w_tsw, zsw, w_iret, w_zret, w_lret, w_vret, w_nret, w_getI, w_getJ, w_getR, w_putI, w_putZ, w_putJ, w_iald, w_zald, w_iast, w_zast, w_alen, w_sI, w_sJ, w_sV, w_vI, w_vJ, w_vV, w_tI, w_mmax, w_mmin, w_mabs, w_lmax, w_acopy, gL, sL, kl_i, kl_l, kl_r, kl_s, kl_m, qI_i, qJ_l, qA_r, qA_s, pI_i, pJ_l, pA_r, pS_s, pM_m, pV_v, c1_i, c1_r, c1_s, c1_m, cS_0, cS_i, cS_l, cS_r, cS_s, cS_m, pN, z_rc_r, zE1, zE2, zE3, true_and, and_true, Nat.zero_add, Nat.reduceAdd, Nat.reduceLeDiff, true_or, or_true, q0, qp4, qp5, qp8, qp9, qf0, qz0, qf1, qz1, qf2, qz2, qf3, qz3, qf6, qz6, qf7, qz7, qf10, qz10, qf11, qz11, qf12, qz12, qf13, qz13, qf14, qz14, k1o, k1m, k1f0, k1z0, k1f1, k1z1, k1f2, k1z2, k1f3, k1z3, k1f4, k1z4, k1f5, k1z5, k1f6, k1z6, k1f7, k1z7, k1r0, k1r1, k1r2, k1r3, k1r4, k1r5, k1r6, k1w, k109, k109a, k109b, k109c, k109d, k109e, k109f, k109g, kr110, kr112, kr114, kr116, kr118, kr120, kr122]
  refine c_nextToken hT hp p0 p1 fun D' e1 e2 e3 e4 e5 e6 e7 => ?_
  have hl := hT.1
  rw [e5]
  refine ⟨fun q => h0 (fun w => q w.1) D' e1 e2 e4 ⟨e7.1, by omega⟩, fun q => ?_⟩
  have q2 : tTo s p = 2 := by omega
  have hlt := e7.2.2.2 (by omega)
  rw [e3, e4]
  refine ⟨⟨by omega, by omega⟩, fun g => ?_, fun g => h0 (fun w => by omega) D' e1 e2 e4 ⟨e7.1, by omega⟩⟩
  have d1 := tEn_dig q2 (k := tEn s p - 1) (by omega) (by omega)
  have d0 := tEn_dig q2 (k := tSt s p) (by omega) (by omega)
  have t1 : D' 111 (tEn s p - 1) = s 3 (tEn s p - 1) := by rw [e1 111 (by decide)]; exact hT.2.2 _ (by omega) (by omega)
  have t0 : D' 111 (tSt s p) = s 3 (tSt s p) := by rw [e1 111 (by decide)]; exact hT.2.2 _ (by omega) (by omega)
  refine ⟨⟨by omega, by omega⟩, ?_⟩
  refine c_Row_get p110 (by omega) (by omega) ?_
  rw [t1]
  refine ⟨⟨by omega, by omega⟩, ?_⟩
  rw [zU_k (by decide), zU_k (by decide), e3, e4]
  refine ⟨⟨by omega, by omega⟩, fun g2 => ?_, fun g2 => ?_⟩
  · have en : tNm s p = s 3 (tEn s p - 1) - 48 := by unfold tNm tNu; rw [if_neg g2]
    rw [zU_s]
    have no : ¬ (lo ≤ tNm s p ∧ tNm s p ≤ hi) → P 0 (zU D' 109 5 (s 3 (tEn s p - 1) - 48)) := fun w => h0 (fun w2 => w w2.2.2) _ (fun o ho => by rw [zU_ne ho]; exact e1 o ho) (by rw [zU_k (by decide)]; exact e2) (by rw [zU_k (by decide)]; exact e4) ⟨e7.1, by omega⟩
    refine ⟨fun w => no (by omega), fun w => ⟨fun w2 => no (by omega), fun w2 => ?_⟩⟩
    exact h1 ⟨q2, by omega, by omega, by omega⟩ _ (fun o ho => by rw [zU_ne ho]; exact e1 o ho) (by rw [zU_k (by decide)]; exact e2) (by rw [zU_k (by decide)]; exact e3) (by rw [zU_k (by decide)]; exact e4) (by rw [zU_s, en]) ⟨e7.1, hlt, e7.2.2.1⟩
  · have g3 : tEn s p - tSt s p = 2 := by omega
    have en : tNm s p = s 3 (tEn s p - 1) - 48 + 10 * (s 3 (tSt s p) - 48) := by unfold tNm tNu; rw [if_pos g3]
    rw [zU_s]
    refine c_Row_get p110 (by omega) (by omega) ?_
    rw [zU_o (by decide), t0]
    refine ⟨⟨by omega, by omega⟩, ⟨by omega, by omega⟩, ⟨by omega, by omega⟩, ?_⟩
    rw [zU_s]
    have no : ¬ (lo ≤ tNm s p ∧ tNm s p ≤ hi) → P 0 (zU (zU D' 109 5 (s 3 (tEn s p - 1) - 48)) 109 5 (s 3 (tEn s p - 1) - 48 + 10 * (s 3 (tSt s p) - 48))) := fun w => h0 (fun w2 => w w2.2.2) _ (fun o ho => by rw [zU_ne ho, zU_ne ho]; exact e1 o ho) (by rw [zU_k (by decide), zU_k (by decide)]; exact e2) (by rw [zU_k (by decide), zU_k (by decide)]; exact e4) ⟨e7.1, by omega⟩
    refine ⟨fun w => no (by omega), fun w => ⟨fun w2 => no (by omega), fun w2 => ?_⟩⟩
    exact h1 ⟨q2, by omega, by omega, by omega⟩ _ (fun o ho => by rw [zU_ne ho, zU_ne ho]; exact e1 o ho) (by rw [zU_k (by decide), zU_k (by decide)]; exact e2) (by rw [zU_k (by decide), zU_k (by decide)]; exact e3) (by rw [zU_k (by decide), zU_k (by decide)]; exact e4) (by rw [zU_s, en]) ⟨e7.1, hlt, e7.2.2.1⟩
/-- the word that starts at st and ends before en is text i -/
def isWd (s : Mem) (tk st en : Int) (i : Nat) : Prop := tk = 1 ∧ en - st = ((zsl.getD i 0 : Nat) : Int) ∧ ∀ k, 0 ≤ k → k < ((zsl.getD i 0 : Nat) : Int) → s 3 (st + k) = zch i k
theorem c_isWord {D s : Mem} {tk st en : Int} {i : Nat} {P : Int → Mem → Prop} (hi : i < 7) (hT : zTx D s) (h2 : D 109 2 = en) (h3 : D 109 3 = st) (h4 : D 109 4 = tk) (st0 : 0 ≤ st) (en0 : st ≤ en) (en1 : en ≤ s 4 0) (h1 : isWd s tk st en i → P 1 D) (h0 : ¬ isWd s tk st en i → P 0 D) : zC miX1_isWord [zr 109, zs i] D P := by
  have i150 : ((150 : Nat) : Int) = 150 := rfl
  have hl := hT.1
  have h7 := zsl_b i hi
  unfold isWd at h1 h0
  have loop : tk = 1 → en - st = ((zsl.getD i 0 : Nat) : Int) → ∀ (r : Nat) (k : Int), (((zsl.getD i 0 : Nat) : Int) - k).toNat = r → 0 ≤ k → k ≤ ((zsl.getD i 0 : Nat) : Int) → (∀ u, 0 ≤ u → u < k → s 3 (st + u) = zch i u) → zW miX1_isWord P 28 [zr 109, zs i, zi k] D := by
    intro ht hn r
    induction r with
    | zero =>
      intro k hr k0 k1 hk
      refine sX1_isWord_28 _ _ _ _ _ ?_
      simp only [tX1_isWord_28, w_ic, w_lc, w_lds, w_ild, w_lld, w_ald, w_ist, w_lst, w_ast, w_iinc, w_iadd, w_isub, w_imul, w_idiv, w_irem, w_iand, w_ior, w_ixor, w_ishl, w_ishr, w_iushr, w_ineg, w_ladd, w_lsub, w_lmul, w_ldiv, w_lrem, w_lcmp, w_i2l, w_l2i, w_dup, w_pop, w_dup2, w_ieq, w_zeq, w_ine, w_zne, w_ilt, w_zlt, w_ige, w_zge, w_igt, w_zgt, w_ile, w_zle, w_cut, w_tsw, zsw, w_iret, w_zret, w_lret, w_vret, w_nret, w_getI, w_getJ, w_getR, w_putI, w_putZ, w_putJ, w_iald, w_zald, w_iast, w_zast, w_alen, w_sI, w_sJ, w_sV, w_vI, w_vJ, w_vV, w_tI, w_mmax, w_mmin, w_mabs, w_lmax, w_acopy, gL, sL, kl_i, kl_l, kl_r, kl_s, kl_m, qI_i, qJ_l, qA_r, qA_s, pI_i, pJ_l, pA_r, pS_s, pM_m, pV_v, c1_i, c1_r, c1_s, c1_m, cS_0, cS_i, cS_l, cS_r, cS_s, cS_m, pN, z_rc_r, zE1, zE2, zE3, true_and, and_true, Nat.zero_add, Nat.reduceAdd, Nat.reduceLeDiff, true_or, or_true, q0, qp4, qp5, qp8, qp9, qf0, qz0, qf1, qz1, qf2, qz2, qf3, qz3, qf6, qz6, qf7, qz7, qf10, qz10, qf11, qz11, qf12, qz12, qf13, qz13, qf14, qz14, k1o, k1m, k1f0, k1z0, k1f1, k1z1, k1f2, k1z2, k1f3, k1z3, k1f4, k1z4, k1f5, k1z5, k1f6, k1z6, k1f7, k1z7, k1r0, k1r1, k1r2, k1r3, k1r4, k1r5, k1r6, k1w, k109, k109a, k109b, k109c, k109d, k109e, k109f, k109g, kr110, kr112, kr114, kr116, kr118, kr120, kr122]
      refine ⟨⟨i, [], rfl⟩, c_length hi ⟨fun _ => h1 ⟨ht, hn, fun u u0 u1 => hk u u0 (by omega)⟩, fun q => absurd (by omega) q⟩⟩
    | succ r ih =>
      intro k hr k0 k1 hk
      refine sX1_isWord_28 _ _ _ _ _ ?_
      simp only [tX1_isWord_28, w_ic, w_lc, w_lds, w_ild, w_lld, w_ald, w_ist, w_lst, w_ast, w_iinc, w_iadd, w_isub, w_imul, w_idiv, w_irem, w_iand, w_ior, w_ixor, w_ishl, w_ishr, w_iushr, w_ineg, w_ladd, w_lsub, w_lmul, w_ldiv, w_lrem, w_lcmp, w_i2l, w_l2i, w_dup, w_pop, w_dup2, w_ieq, w_zeq, w_ine, w_zne, w_ilt, w_zlt, w_ige, w_zge, w_igt, w_zgt, w_ile, w_zle, w_cut, w_tsw, zsw, w_iret, w_zret, w_lret, w_vret, w_nret, w_getI, w_getJ, w_getR, w_putI, w_putZ, w_putJ, w_iald, w_zald, w_iast, w_zast, w_alen, w_sI, w_sJ, w_sV, w_vI, w_vJ, w_vV, w_tI, w_mmax, w_mmin, w_mabs, w_lmax, w_acopy, gL, sL, kl_i, kl_l, kl_r, kl_s, kl_m, qI_i, qJ_l, qA_r, qA_s, pI_i, pJ_l, pA_r, pS_s, pM_m, pV_v, c1_i, c1_r, c1_s, c1_m, cS_0, cS_i, cS_l, cS_r, cS_s, cS_m, pN, z_rc_r, zE1, zE2, zE3, true_and, and_true, Nat.zero_add, Nat.reduceAdd, Nat.reduceLeDiff, true_or, or_true, q0, qp4, qp5, qp8, qp9, qf0, qz0, qf1, qz1, qf2, qz2, qf3, qz3, qf6, qz6, qf7, qz7, qf10, qz10, qf11, qz11, qf12, qz12, qf13, qz13, qf14, qz14, k1o, k1m, k1f0, k1z0, k1f1, k1z1, k1f2, k1z2, k1f3, k1z3, k1f4, k1z4, k1f5, k1z5, k1f6, k1z6, k1f7, k1z7, k1r0, k1r1, k1r2, k1r3, k1r4, k1r5, k1r6, k1w, k109, k109a, k109b, k109c, k109d, k109e, k109f, k109g, kr110, kr112, kr114, kr116, kr118, kr120, kr122]
      refine ⟨⟨i, [], rfl⟩, c_length hi ⟨fun q => absurd q (by omega), fun _ => ?_⟩⟩
      rw [h3]
      refine ⟨⟨by omega, by omega⟩, ?_⟩
      refine c_Row_get p110 (by omega) (by omega) ?_
      rw [hT.2.2 _ (by omega) (by omega)]
      refine ⟨⟨i, _, rfl⟩, c_charAt hi k0 (by omega) ⟨fun q => ⟨⟨by omega, by omega⟩, ih (k + 1) (by omega) (by omega) (by omega) fun u u0 u1 => ?_⟩, fun q => h0 fun w => q (w.2.2 k k0 (by omega))⟩⟩
      by_cases e : u = k
      · rw [e]; exact q
      · exact hk u u0 (by omega)
  refine e_X1_isWord ?_
  simp only [tX1_isWord_0, w_ic, w_lc, w_lds, w_ild, w_lld, w_ald, w_ist, w_lst, w_ast, w_iinc, w_iadd, w_isub, w_imul, w_idiv, w_irem, w_iand, w_ior, w_ixor, w_ishl, w_ishr, w_iushr, w_ineg, w_ladd, w_lsub, w_lmul, w_ldiv, w_lrem, w_lcmp, w_i2l, w_l2i, w_dup, w_pop, w_dup2, w_ieq, w_zeq, w_ine, w_zne, w_ilt, w_zlt, w_ige, w_zge, w_igt, w_zgt, w_ile, w_zle, w_cut, w_tsw, zsw, w_iret, w_zret, w_lret, w_vret, w_nret, w_getI, w_getJ, w_getR, w_putI, w_putZ, w_putJ, w_iald, w_zald, w_iast, w_zast, w_alen, w_sI, w_sJ, w_sV, w_vI, w_vJ, w_vV, w_tI, w_mmax, w_mmin, w_mabs, w_lmax, w_acopy, gL, sL, kl_i, kl_l, kl_r, kl_s, kl_m, qI_i, qJ_l, qA_r, qA_s, pI_i, pJ_l, pA_r, pS_s, pM_m, pV_v, c1_i, c1_r, c1_s, c1_m, cS_0, cS_i, cS_l, cS_r, cS_s, cS_m, pN, z_rc_r, zE1, zE2, zE3, true_and, and_true, Nat.zero_add, Nat.reduceAdd, Nat.reduceLeDiff, true_or, or_true, q0, qp4, qp5, qp8, qp9, qf0, qz0, qf1, qz1, qf2, qz2, qf3, qz3, qf6, qz6, qf7, qz7, qf10, qz10, qf11, qz11, qf12, qz12, qf13, qz13, qf14, qz14, k1o, k1m, k1f0, k1z0, k1f1, k1z1, k1f2, k1z2, k1f3, k1z3, k1f4, k1z4, k1f5, k1z5, k1f6, k1z6, k1f7, k1z7, k1r0, k1r1, k1r2, k1r3, k1r4, k1r5, k1r6, k1w, k109, k109a, k109b, k109c, k109d, k109e, k109f, k109g, kr110, kr112, kr114, kr116, kr118, kr120, kr122]
  rw [h2, h3, h4]
  refine ⟨fun q => h0 fun w => q w.1, fun q => ⟨⟨by omega, by omega⟩, ⟨i, [], rfl⟩, c_length hi ⟨fun q2 => ?_, fun q2 => h0 fun w => q2 w.2.1⟩⟩⟩
  exact loop (by omega) q2 _ 0 rfl (by omega) (by omega) (fun u u0 u1 => by omega)
