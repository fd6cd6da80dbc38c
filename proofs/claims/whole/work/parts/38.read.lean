/-! ===== 38: the class reads: tokens ===== -/
noncomputable def zRn (p : Int → Prop) (x : Int) : Int := x + zFst (fun k => ¬ p (x + k)) 152
theorem zRn_of {p : Int → Prop} {x y : Int} (h : x ≤ y) (h2 : y - x < 152) (hp : ¬ p y) (hk : ∀ k, x ≤ k → k < y → p k) : zRn p x = y := by
  unfold zRn
  rw [zFst_of (p := fun k => ¬ p (x + k)) (t := y - x) (by omega) (by rw [show x + (y - x) = y by omega]; exact hp) (fun u u0 u1 w => w (hk _ (by omega) (by omega))) (by omega)]
  omega
def sTo (b : Int) : Int := if 97 ≤ b ∧ b ≤ 122 then 1 else if 48 ≤ b ∧ b ≤ 57 then 2 else if b = 59 then 3 else 4
theorem c_tokenBegunBy {b : Int} {D : Mem} {P : Int → Mem → Prop} (hP : P (sTo b) D) : zC miX1_tokenBegunBy [zi b] D P := by
  unfold sTo at hP
  refine e_X1_tokenBegunBy ?_
  simp only [tX1_tokenBegunBy_0, w_ic, w_lc, w_lds, w_ild, w_lld, w_ald, w_ist, w_lst, w_ast, w_iinc, w_iadd, w_isub, w_imul, w_idiv, w_irem, w_iand, w_ior, w_ixor, w_ishl, w_ishr, w_iushr, w_ineg, w_ladd, w_lsub, w_lmul, w_ldiv, w_lrem, w_lcmp, w_i2l, w_l2i, w_dup, w_pop, w_dup2, w_ieq, w_zeq, w_ine, w_zne, w_ilt, w_zlt, w_ige, w_zge, w_igt, w_zgt, w_ile, w_zle, w_cut, w_tsw, zsw, w_iret, w_zret, w_lret, w_vret, w_nret, w_getI, w_getJ, w_getR, w_putI, w_putZ, w_putJ, w_iald, w_zald, w_iast, w_zast, w_alen, w_sI, w_sJ, w_sV, w_vI, w_vJ, w_vV, w_tI, w_mmax, w_mmin, w_mabs, w_lmax, w_acopy, gL, sL, kl_i, kl_l, kl_r, kl_s, kl_m, qI_i, qJ_l, qA_r, qA_s, pI_i, pJ_l, pA_r, pS_s, pM_m, pV_v, c1_i, c1_r, c1_s, c1_m, cS_0, cS_i, cS_l, cS_r, cS_s, cS_m, pN, z_rc_r, zE1, zE2, zE3, true_and, and_true, Nat.zero_add, Nat.reduceAdd, Nat.reduceLeDiff, true_or, or_true]
  by_cases h1 : 97 ≤ b ∧ b ≤ 122
  · rw [if_pos h1] at hP
    exact ⟨fun q => absurd q (by omega), fun _ => ⟨fun q => absurd q (by omega), fun _ => hP⟩⟩
  · rw [if_neg h1] at hP
    by_cases h2 : 48 ≤ b ∧ b ≤ 57
    · rw [if_pos h2] at hP
      exact ⟨fun _ => ⟨fun q => absurd q (by omega), fun _ => ⟨fun q => absurd q (by omega), fun _ => hP⟩⟩, fun q => ⟨fun _ => ⟨fun q2 => absurd q2 (by omega), fun _ => ⟨fun q2 => absurd q2 (by omega), fun _ => hP⟩⟩, fun q2 => absurd q2 (by omega)⟩⟩
    · rw [if_neg h2] at hP
      have fin : (¬ b = 59 → P 4 D) ∧ (¬ ¬ b = 59 → P 3 D) := by
        by_cases h3 : b = 59
        · rw [if_pos h3] at hP
          exact ⟨fun q => absurd h3 q, fun _ => hP⟩
        · rw [if_neg h3] at hP
          exact ⟨fun _ => hP, fun q => absurd h3 q⟩
      exact ⟨fun _ => ⟨fun _ => fin, fun _ => ⟨fun _ => fin, fun q => absurd q (by omega)⟩⟩, fun _ => ⟨fun _ => ⟨fun _ => fin, fun _ => ⟨fun _ => fin, fun q => absurd q (by omega)⟩⟩, fun q => absurd q (by omega)⟩⟩
/-- the token behind place p: where it starts, what it is, where it ends -/
noncomputable def tSt (s : Mem) (p : Int) : Int := zRn (fun k => k < s 4 0 ∧ s 3 k = 32) p
noncomputable def tTo (s : Mem) (p : Int) : Int := if s 4 0 ≤ tSt s p then 0 else sTo (s 3 (tSt s p))
noncomputable def tEn (s : Mem) (p : Int) : Int := if s 4 0 ≤ tSt s p then tSt s p else if tTo s p = 1 ∨ tTo s p = 2 then zRn (fun k => k < s 4 0 ∧ sTo (s 3 k) = tTo s p) (tSt s p) else tSt s p + 1
def zTx (D s : Mem) : Prop := (0 ≤ s 4 0 ∧ s 4 0 ≤ 150) ∧ D 109 1 = s 4 0 ∧ ∀ j, 0 ≤ j → j < s 4 0 → D 111 j = s 3 j
theorem zTx.of {D D' s : Mem} (h : zTx D s) (e : D' 111 = D 111) (e1 : D' 109 1 = D 109 1) : zTx D' s := by
  obtain ⟨h1, h2, h3⟩ := h
  exact ⟨h1, by rw [e1]; exact h2, fun j j0 j1 => by rw [e]; exact h3 j j0 j1⟩
theorem c_nextToken {D s : Mem} {p : Int} {P : Int → Mem → Prop} (hT : zTx D s) (hp : D 109 2 = p) (p0 : 0 ≤ p) (p1 : p ≤ s 4 0) (hP : ∀ D', (∀ o, o ≠ 109 → D' o = D o) → D' 109 1 = s 4 0 → D' 109 2 = tEn s p → D' 109 3 = tSt s p → D' 109 4 = tTo s p → D' 109 5 = D 109 5 → (p ≤ tSt s p ∧ tSt s p ≤ tEn s p ∧ tEn s p ≤ s 4 0 ∧ (tTo s p ≠ 0 → tSt s p < tEn s p)) → P 0 D') : zC miX1_nextToken [zr 109] D P := by
  have i150 : ((150 : Nat) : Int) = 150 := rfl
  obtain ⟨hl, h1, h3⟩ := hT
  -- the end of a word or a number
  have run : ∀ (r : Nat) (q : Int) (D2 : Mem), (s 4 0 - q).toNat = r → tSt s p < q → q ≤ s 4 0 → (∀ o, o ≠ 109 → D2 o = D o) → D2 109 1 = s 4 0 → D2 109 2 = q → D2 109 3 = tSt s p → D2 109 4 = tTo s p → D2 109 5 = D 109 5 → (p ≤ tSt s p ∧ tSt s p < s 4 0) → (tTo s p = 1 ∨ tTo s p = 2) → (∀ k, tSt s p ≤ k → k < q → k < s 4 0 ∧ sTo (s 3 k) = tTo s p) → zW miX1_nextToken P 110 [zr 109] D2 := by
    intro r
    induction r with
    | zero =>
      intro q D2 hr q0 q1 a1 a2 a3 a4 a5 a6 a7 a8 a9
      have e : tEn s p = q := by
        unfold tEn
        rw [if_neg (by omega), if_pos a8]
        exact zRn_of (by omega) (by omega) (fun w => by omega) a9
      refine sX1_nextToken_110 _ _ _ _ _ ?_
      simp only [tX1_nextToken_110, w_ic, w_lc, w_lds, w_ild, w_lld, w_ald, w_ist, w_lst, w_ast, w_iinc, w_iadd, w_isub, w_imul, w_idiv, w_irem, w_iand, w_ior, w_ixor, w_ishl, w_ishr, w_iushr, w_ineg, w_ladd, w_lsub, w_lmul, w_ldiv, w_lrem, w_lcmp, w_i2l, w_l2i, w_dup, w_pop, w_dup2, w_ieq, w_zeq, w_ine, w_zne, w_ilt, w_zlt, w_ige, w_zge, w_igt, w_zgt, w_ile, w_zle, w_cut, w_tsw, zsw, w_iret, w_zret, w_lret, w_vret, w_nret, w_getI, w_getJ, w_getR, w_putI, w_putZ, w_putJ, w_iald, w_zald, w_iast, w_zast, w_alen, w_sI, w_sJ, w_sV, w_vI, w_vJ, w_vV, w_tI, w_mmax, w_mmin, w_mabs, w_lmax, w_acopy, gL, sL, kl_i, kl_l, kl_r, kl_s, kl_m, qI_i, qJ_l, qA_r, qA_s, pI_i, pJ_l, pA_r, pS_s, pM_m, pV_v, c1_i, c1_r, c1_s, c1_m, cS_0, cS_i, cS_l, cS_r, cS_s, cS_m, pN, z_rc_r, zE1, zE2, zE3, true_and, and_true, Nat.zero_add, Nat.reduceAdd, Nat.reduceLeDiff, true_or, or_true, q0, qp4, qp5, qp8, qp9, qf0, qz0, qf1, qz1, qf2, qz2, qf3, qz3, qf6, qz6, qf7, qz7, qf10, qz10, qf11, qz11, qf12, qz12, qf13, qz13, qf14, qz14, k1o, k1m, k1f0, k1z0, k1f1, k1z1, k1f2, k1z2, k1f3, k1z3, k1f4, k1z4, k1f5, k1z5, k1f6, k1z6, k1f7, k1z7, k1r0, k1r1, k1r2, k1r3, k1r4, k1r5, k1r6, k1w, k109, k109a, k109b, k109c, k109d, k109e, k109f, k109g, kr110, kr112, kr114, kr116, kr118, kr120, kr122]
      rw [a2, a3]
      exact ⟨fun _ => hP D2 a1 a2 (by rw [a3, e]) a4 a5 a6 ⟨a7.1, by omega, by omega, fun _ => by omega⟩, fun w => absurd (by omega) w⟩
    | succ r ih =>
      intro q D2 hr q0 q1 a1 a2 a3 a4 a5 a6 a7 a8 a9
      refine sX1_nextToken_110 _ _ _ _ _ ?_
      simp only [tX1_nextToken_110, w_ic, w_lc, w_lds, w_ild, w_lld, w_ald, w_ist, w_lst, w_ast, w_iinc, w_iadd, w_isub, w_imul, w_idiv, w_irem, w_iand, w_ior, w_ixor, w_ishl, w_ishr, w_iushr, w_ineg, w_ladd, w_lsub, w_lmul, w_ldiv, w_lrem, w_lcmp, w_i2l, w_l2i, w_dup, w_pop, w_dup2, w_ieq, w_zeq, w_ine, w_zne, w_ilt, w_zlt, w_ige, w_zge, w_igt, w_zgt, w_ile, w_zle, w_cut, w_tsw, zsw, w_iret, w_zret, w_lret, w_vret, w_nret, w_getI, w_getJ, w_getR, w_putI, w_putZ, w_putJ, w_iald, w_zald, w_iast, w_zast, w_alen, w_sI, w_sJ, w_sV, w_vI, w_vJ, w_vV, w_tI, w_mmax, w_mmin, w_mabs, w_lmax, w_acopy, gL, sL, kl_i, kl_l, kl_r, kl_s, kl_m, qI_i, qJ_l, qA_r, qA_s, pI_i, pJ_l, pA_r, pS_s, pM_m, pV_v, c1_i, c1_r, c1_s, c1_m, cS_0, cS_i, cS_l, cS_r, cS_s, cS_m, pN, z_rc_r, zE1, zE2, zE3, true_and, and_true, Nat.zero_add, Nat.reduceAdd, Nat.reduceLeDiff, true_or, or_true, q0, qp4, qp5, qp8, qp9, qf0, qz0, qf1, qz1, qf2, qz2, qf3, qz3, qf6, qz6, qf7, qz7, qf10, qz10, qf11, qz11, qf12, qz12, qf13, qz13, qf14, qz14, k1o, k1m, k1f0, k1z0, k1f1, k1z1, k1f2, k1z2, k1f3, k1z3, k1f4, k1z4, k1f5, k1z5, k1f6, k1z6, k1f7, k1z7, k1r0, k1r1, k1r2, k1r3, k1r4, k1r5, k1r6, k1w, k109, k109a, k109b, k109c, k109d, k109e, k109f, k109g, kr110, kr112, kr114, kr116, kr118, kr120, kr122]
      rw [a2, a3]
      refine ⟨fun w => absurd w (by omega), fun _ => ?_⟩
      refine c_Row_get p110 (by omega) (by omega) ?_
      rw [a1 111 (by decide), h3 q (by omega) (by omega)]
      refine c_tokenBegunBy ?_
      rw [a5, a3]
      refine ⟨fun w => ?_, fun w => ⟨⟨by omega, by omega⟩, ?_⟩⟩
      · have e : tEn s p = q := by
          unfold tEn
          rw [if_neg (by omega), if_pos a8]
          exact zRn_of (by omega) (by omega) (fun w2 => w w2.2) a9
        exact hP D2 a1 a2 (by rw [a3, e]) a4 a5 a6 ⟨a7.1, by omega, by omega, fun _ => by omega⟩
      · refine ih (q + 1) _ (by omega) (by omega) (by omega) (fun o ho => by rw [zU_ne ho]; exact a1 o ho) (by rw [zU_k (by decide)]; exact a2) zU_s (by rw [zU_k (by decide)]; exact a4) (by rw [zU_k (by decide)]; exact a5) (by rw [zU_k (by decide)]; exact a6) a7 a8 (fun k k0 k1 => ?_)
        by_cases e : k = q
        · rw [e]; exact ⟨by omega, Decidable.not_not.mp w⟩
        · exact a9 k k0 (by omega)
  -- the blanks before it
  have loop : ∀ (r : Nat) (q : Int) (D2 : Mem), (s 4 0 - q).toNat = r → p ≤ q → q ≤ s 4 0 → (∀ o, o ≠ 109 → D2 o = D o) → D2 109 1 = s 4 0 → D2 109 2 = q → D2 109 5 = D 109 5 → (∀ k, p ≤ k → k < q → k < s 4 0 ∧ s 3 k = 32) → zW miX1_nextToken P 0 [zr 109] D2 := by
    intro r
    induction r with
    | zero =>
      intro q D2 hr q0 q1 a1 a2 a3 a6 a9
      have e : tSt s p = q := zRn_of (by omega) (by omega) (fun w => by omega) a9
      have e2 : tTo s p = 0 := by unfold tTo; rw [if_pos (by omega)]
      have e3 : tEn s p = q := by unfold tEn; rw [if_pos (by omega), e]
      refine sX1_nextToken_0 _ _ _ _ _ ?_
      simp only [tX1_nextToken_0, w_ic, w_lc, w_lds, w_ild, w_lld, w_ald, w_ist, w_lst, w_ast, w_iinc, w_iadd, w_isub, w_imul, w_idiv, w_irem, w_iand, w_ior, w_ixor, w_ishl, w_ishr, w_iushr, w_ineg, w_ladd, w_lsub, w_lmul, w_ldiv, w_lrem, w_lcmp, w_i2l, w_l2i, w_dup, w_pop, w_dup2, w_ieq, w_zeq, w_ine, w_zne, w_ilt, w_zlt, w_ige, w_zge, w_igt, w_zgt, w_ile, w_zle, w_cut, w_tsw, zsw, w_iret, w_zret, w_lret, w_vret, w_nret, w_getI, w_getJ, w_getR, w_putI, w_putZ, w_putJ, w_iald, w_zald, w_iast, w_zast, w_alen, w_sI, w_sJ, w_sV, w_vI, w_vJ, w_vV, w_tI, w_mmax, w_mmin, w_mabs, w_lmax, w_acopy, gL, sL, kl_i, kl_l, kl_r, kl_s, kl_m, qI_i, qJ_l, qA_r, qA_s, pI_i, pJ_l, pA_r, pS_s, pM_m, pV_v, c1_i, c1_r, c1_s, c1_m, cS_0, cS_i, cS_l, cS_r, cS_s, cS_m, pN, z_rc_r, zE1, zE2, zE3, true_and, and_true, Nat.zero_add, Nat.reduceAdd, Nat.reduceLeDiff, true_or, or_true, q0, qp4, qp5, qp8, qp9, qf0, qz0, qf1, qz1, qf2, qz2, qf3, qz3, qf6, qz6, qf7, qz7, qf10, qz10, qf11, qz11, qf12, qz12, qf13, qz13, qf14, qz14, k1o, k1m, k1f0, k1z0, k1f1, k1z1, k1f2, k1z2, k1f3, k1z3, k1f4, k1z4, k1f5, k1z5, k1f6, k1z6, k1f7, k1z7, k1r0, k1r1, k1r2, k1r3, k1r4, k1r5, k1r6, k1w, k109, k109a, k109b, k109c, k109d, k109e, k109f, k109g, kr110, kr112, kr114, kr116, kr118, kr120, kr122]
      rw [a2, a3]
      refine ⟨fun _ => ?_, fun w => absurd (by omega) w⟩
      rw [zU_k (by decide), zU_k (by decide), zU_k (by decide), zU_k (by decide), a2, a3]
      refine ⟨fun w => absurd w (by omega), fun _ => ?_⟩
      refine hP _ (fun o ho => by rw [zU_ne ho, zU_ne ho]; exact a1 o ho) (by rw [zU_k (by decide), zU_k (by decide)]; exact a2) (by rw [zU_k (by decide), zU_k (by decide), a3, e3]) (by rw [zU_k (by decide), zU_s, e]) (by rw [zU_s, e2]) (by rw [zU_k (by decide), zU_k (by decide)]; exact a6) ⟨by omega, by omega, by omega, fun w => absurd e2 w⟩
    | succ r ih =>
      intro q D2 hr q0 q1 a1 a2 a3 a6 a9
      refine sX1_nextToken_0 _ _ _ _ _ ?_
      simp only [tX1_nextToken_0, w_ic, w_lc, w_lds, w_ild, w_lld, w_ald, w_ist, w_lst, w_ast, w_iinc, w_iadd, w_isub, w_imul, w_idiv, w_irem, w_iand, w_ior, w_ixor, w_ishl, w_ishr, w_iushr, w_ineg, w_ladd, w_lsub, w_lmul, w_ldiv, w_lrem, w_lcmp, w_i2l, w_l2i, w_dup, w_pop, w_dup2, w_ieq, w_zeq, w_ine, w_zne, w_ilt, w_zlt, w_ige, w_zge, w_igt, w_zgt, w_ile, w_zle, w_cut, w_tsw, zsw, w_iret, w_zret, w_lret, w_vret, w_nret, w_getI, w_getJ, w_getR, w_putI, w_putZ, w_putJ, w_iald, w_zald, w_iast, w_zast, w_alen, w_sI, w_sJ, w_sV, w_vI, w_vJ, w_vV, w_tI, w_mmax, w_mmin, w_mabs, w_lmax, w_acopy, gL, sL, kl_i, kl_l, kl_r, kl_s, kl_m, qI_i, qJ_l, qA_r, qA_s, pI_i, pJ_l, pA_r, pS_s, pM_m, pV_v, c1_i, c1_r, c1_s, c1_m, cS_0, cS_i, cS_l, cS_r, cS_s, cS_m, pN, z_rc_r, zE1, zE2, zE3, true_and, and_true, Nat.zero_add, Nat.reduceAdd, Nat.reduceLeDiff, true_or, or_true, q0, qp4, qp5, qp8, qp9, qf0, qz0, qf1, qz1, qf2, qz2, qf3, qz3, qf6, qz6, qf7, qz7, qf10, qz10, qf11, qz11, qf12, qz12, qf13, qz13, qf14, qz14, k1o, k1m, k1f0, k1z0, k1f1, k1z1, k1f2, k1z2, k1f3, k1z3, k1f4, k1z4, k1f5, k1z5, k1f6, k1z6, k1f7, k1z7, k1r0, k1r1, k1r2, k1r3, k1r4, k1r5, k1r6, k1w, k109, k109a, k109b, k109c, k109d, k109e, k109f, k109g, kr110, kr112, kr114, kr116, kr118, kr120, kr122]
      rw [a2, a3]
      refine ⟨fun w => absurd w (by omega), fun _ => ?_⟩
      refine c_Row_get p110 (by omega) (by omega) ?_
      rw [a1 111 (by decide), h3 q (by omega) (by omega)]
      refine ⟨fun w => ?_, fun w => ?_⟩
      · have e : tSt s p = q := zRn_of (by omega) (by omega) (fun w2 => w w2.2) a9
        have e2 : tTo s p = sTo (s 3 q) := by unfold tTo; rw [if_neg (by omega), e]
        rw [a3, zU_k (by decide), zU_k (by decide), zU_k (by decide), zU_k (by decide), a2, a3]
        refine ⟨fun _ => ?_, fun w2 => absurd (by omega) w2⟩
        refine c_Row_get p110 (by omega) (by omega) ?_
        rw [zU_o (by decide), zU_o (by decide), a1 111 (by decide), h3 q (by omega) (by omega)]
        refine c_tokenBegunBy ?_
        rw [zU_k (by decide), zU_k (by decide), zU_k (by decide), a3, zU_k (by decide), zU_s, ← e2]
        refine ⟨⟨by omega, by omega⟩, ?_⟩
        have go : (tTo s p = 1 ∨ tTo s p = 2) → zW miX1_nextToken P 110 [zr 109] (zU (zU (zU (zU D2 109 3 q) 109 4 0) 109 4 (tTo s p)) 109 2 (q + 1)) := by
          intro h12
          refine run _ (q + 1) _ rfl (by omega) (by omega) (fun o ho => by rw [zU_ne ho, zU_ne ho, zU_ne ho, zU_ne ho]; exact a1 o ho) (by rw [zU_k (by decide), zU_k (by decide), zU_k (by decide), zU_k (by decide)]; exact a2) zU_s (by rw [zU_k (by decide), zU_k (by decide), zU_k (by decide), zU_s, e]) (by rw [zU_k (by decide), zU_s]) (by rw [zU_k (by decide), zU_k (by decide), zU_k (by decide), zU_k (by decide)]; exact a6) ⟨by omega, by omega⟩ h12 (fun k k0 k1 => ?_)
          rw [show k = q by omega]
          exact ⟨by omega, e2.symm⟩
        refine ⟨fun g1 => go (Or.inl g1), fun g1 => ⟨fun g2 => go (Or.inr g2), fun g2 => ?_⟩⟩
        have e3 : tEn s p = q + 1 := by unfold tEn; rw [if_neg (by omega), if_neg (by omega), e]
        refine hP _ (fun o ho => by rw [zU_ne ho, zU_ne ho, zU_ne ho, zU_ne ho]; exact a1 o ho) (by rw [zU_k (by decide), zU_k (by decide), zU_k (by decide), zU_k (by decide)]; exact a2) (by rw [zU_s, e3]) (by rw [zU_k (by decide), zU_k (by decide), zU_k (by decide), zU_s, e]) (by rw [zU_k (by decide), zU_s]) (by rw [zU_k (by decide), zU_k (by decide), zU_k (by decide), zU_k (by decide)]; exact a6) ⟨by omega, by omega, by omega, fun _ => by omega⟩
      · rw [a3]
        refine ⟨⟨by omega, by omega⟩, ih (q + 1) _ (by omega) (by omega) (by omega) (fun o ho => by rw [zU_ne ho]; exact a1 o ho) (by rw [zU_k (by decide)]; exact a2) zU_s (by rw [zU_k (by decide)]; exact a6) (fun k k0 k1 => ?_)⟩
        by_cases e : k = q
        · rw [e]; exact ⟨by omega, Decidable.not_not.mp w⟩
        · exact a9 k k0 (by omega)
  exact zC.go (ls := [zr 109]) (K := fun E => w_cut miX1_nextToken E 0) mk_X1_nextToken (fun E => S_cut) rfl (Nat.le_of_ble_eq_true rfl) (loop _ p D rfl (by omega) p1 (fun _ _ => rfl) h1 hp rfl (fun k k0 k1 => by omega))
