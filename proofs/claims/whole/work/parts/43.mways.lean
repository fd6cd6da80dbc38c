/-! ===== 43: the model: regions, frames, ladders, ways ===== -/
def yQ (D : Mem) (r : Int) (a : Int → Int) : Prop := ∀ j, 0 ≤ j → j < 54 → D 125 (r + j) = a j
def yR (D : Mem) (r : Int) (a : Int → Int) : Prop := ∀ j, 0 ≤ j → j < 273 → D 125 (r + j) = a j
theorem yR.q {D : Mem} {r : Int} {a : Int → Int} (h : yR D r a) : yQ D r a := fun j h0 h1 => h j h0 (by omega)
def rOK (r : Int) : Prop := r = 0 ∨ r = 819 ∨ r = 1092
theorem rOK.b {r : Int} (h : rOK r) : 0 ≤ r ∧ r ≤ 1092 := by
  rcases h with h | h | h <;> omega
theorem yQ.t {D : Mem} {r : Int} {a : Int → Int} (h : yQ D r a) (k i : Int) (h0 : 0 ≤ k + i) (h1 : k + i < 54) : D 125 (r + k + i) = a (k + i) := by
  rw [Int.add_assoc]
  exact h _ h0 h1
/-- only away and queue changed -/
def yA (D D' : Mem) : Prop := ∀ o, o ≠ 129 → o ≠ 130 → D' o = D o
theorem yA.rfl {D : Mem} : yA D D := fun _ _ _ => Eq.refl _
theorem yA.trans {D D1 D2 : Mem} (h : yA D D1) (h2 : yA D1 D2) : yA D D2 := fun o p q => (h2 o p q).trans (h o p q)
theorem yA.q {D D' : Mem} {r : Int} {a : Int → Int} (h : yA D D') (hq : yQ D r a) : yQ D' r a := by
  unfold yQ
  rw [h 125 (by decide) (by decide)]
  exact hq
/-- p holds of one below k -/
def wEx (p : Int → Prop) (k : Int) : Prop := ∃ j, 0 ≤ j ∧ j < k ∧ p j
theorem wEx_0 {p : Int → Prop} : ¬ wEx p 0 := fun ⟨j, h0, h1, _⟩ => by omega
theorem wEx_s {p : Int → Prop} {k : Int} (h : 0 ≤ k) : wEx p (k + 1) ↔ wEx p k ∨ p k := by
  constructor
  · rintro ⟨j, j0, j1, j2⟩
    by_cases e : j = k
    · rw [e] at j2; exact Or.inr j2
    · exact Or.inl ⟨j, j0, by omega, j2⟩
  · rintro (⟨j, j0, j1, j2⟩ | q)
    · exact ⟨j, j0, by omega, j2⟩
    · exact ⟨k, h, by omega, q⟩
theorem m_isLadderDown {r c : Int} {a : Int → Int} {D : Mem} {P : Int → Mem → Prop} (hr : rOK r) (hq : yQ D r a) (n0 : 0 ≤ a 0 ∧ a 0 ≤ 6) (h1 : sOp a c → P 1 D) (h0 : ¬ sOp a c → P 0 D) : zC miX6_isLadderDown [zr 124, zi r, zi c] D P := by
  have hb := hr.b
  have hs : sOp a c ↔ wEx (fun j => a (4 + j) = c ∧ a (10 + j) = 1) (a 0) := Iff.rfl
  have loop : ∀ (m : Nat) (k is : Int), (a 0 - k).toNat = m → 0 ≤ k → k ≤ a 0 → (is = 0 ∧ ¬ wEx (fun j => a (4 + j) = c ∧ a (10 + j) = 1) k) ∨ (is = 1 ∧ wEx (fun j => a (4 + j) = c ∧ a (10 + j) = 1) k) → zW miX6_isLadderDown P 5 [zr 124, zi r, zi c, zi is, zi k] D := by
    intro m
    induction m with
    | zero =>
      intro k is hm k0 k1 hi
      have ek : k = a 0 := by omega
      rw [ek, ← hs] at hi
      refine sX6_isLadderDown_5 _ _ _ _ _ ?_
      simp only [tX6_isLadderDown_5, w_ic, w_lc, w_lds, w_ild, w_lld, w_ald, w_ist, w_lst, w_ast, w_iinc, w_iadd, w_isub, w_imul, w_idiv, w_irem, w_iand, w_ior, w_ixor, w_ishl, w_ishr, w_iushr, w_ineg, w_ladd, w_lsub, w_lmul, w_ldiv, w_lrem, w_lcmp, w_i2l, w_l2i, w_dup, w_pop, w_dup2, w_ieq, w_zeq, w_ine, w_zne, w_ilt, w_zlt, w_ige, w_zge, w_igt, w_zgt, w_ile, w_zle, w_cut, w_tsw, zsw, w_iret, w_zret, w_lret, w_vret, w_nret, w_getI, w_getJ, w_getR, w_putI, w_putZ, w_putJ, w_iald, w_zald, w_iast, w_zast, w_alen, w_sI, w_sJ, w_sV, w_vI, w_vJ, w_vV, w_tI, w_mmax, w_mmin, w_mabs, w_lmax, w_acopy, gL, sL, kl_i, kl_l, kl_r, kl_s, kl_m, qI_i, qJ_l, qA_r, qA_s, pI_i, pJ_l, pA_r, pS_s, pM_m, pV_v, c1_i, c1_r, c1_s, c1_m, cS_0, cS_i, cS_l, cS_r, cS_s, cS_m, pN, z_rc_r, zE1, zE2, zE3, true_and, and_true, Nat.zero_add, Nat.reduceAdd, Nat.reduceLeDiff, true_or, or_true, Int.reduceLE, Int.reduceLT, zcmp_l, zcmp_g, zcmp_e, zcmp_le, mo, mf0, mz0, mf1, mz1, mf2, mz2, mf6, mz6, mf10, mz10, mf11, mz11, mf12, mz12, mf13, mz13, mf14, mz14, mf16, mz16, mf17, mz17, mf18, mz18, mf19, mz19, mi3, mi7, mi8, mi9, mi15, mi4, mi5, mi20, ma125, mn125, ma126, mn126, ma127, mn127, ma128, mn128, ma129, mn129, ma130, mn130, ma131, mn131, ma132, mn132, ma133, mn133, ma134, mn134, ma135, mn135, ma136, mn136, ma137, mn137]
      rw [hq 0 (by omega) (by omega)]
      refine ⟨⟨by omega, by omega⟩, by omega, by omega, fun _ => ?_, fun w => absurd (by omega) w⟩
      rcases hi with ⟨e, h⟩ | ⟨e, h⟩
      · subst e; exact ⟨Or.inl rfl, h0 h⟩
      · subst e; exact ⟨Or.inr rfl, h1 h⟩
    | succ m ih =>
      intro k is hm k0 k1 hi
      have up : ∀ is' : Int, ((is' = 0 ∧ ¬ wEx (fun j => a (4 + j) = c ∧ a (10 + j) = 1) (k + 1)) ∨ (is' = 1 ∧ wEx (fun j => a (4 + j) = c ∧ a (10 + j) = 1) (k + 1))) → zR (k + 1) ∧ zW miX6_isLadderDown P 5 [zr 124, zi r, zi c, zi is', zi (k + 1)] D := fun is' h => ⟨⟨by omega, by omega⟩, ih (k + 1) is' (by omega) (by omega) (by omega) h⟩
      rw [wEx_s k0] at up
      have no : ¬ (a (4 + k) = c ∧ a (10 + k) = 1) → ¬ ¬ is = 0 → ¬ (wEx (fun j => a (4 + j) = c ∧ a (10 + j) = 1) k ∨ (a (4 + k) = c ∧ a (10 + k) = 1)) := by
        rintro q q2 (w | w)
        · rcases hi with ⟨_, h⟩ | ⟨e, _⟩
          · exact h w
          · omega
        · exact q w
      refine sX6_isLadderDown_5 _ _ _ _ _ ?_
      simp only [tX6_isLadderDown_5, w_ic, w_lc, w_lds, w_ild, w_lld, w_ald, w_ist, w_lst, w_ast, w_iinc, w_iadd, w_isub, w_imul, w_idiv, w_irem, w_iand, w_ior, w_ixor, w_ishl, w_ishr, w_iushr, w_ineg, w_ladd, w_lsub, w_lmul, w_ldiv, w_lrem, w_lcmp, w_i2l, w_l2i, w_dup, w_pop, w_dup2, w_ieq, w_zeq, w_ine, w_zne, w_ilt, w_zlt, w_ige, w_zge, w_igt, w_zgt, w_ile, w_zle, w_cut, w_tsw, zsw, w_iret, w_zret, w_lret, w_vret, w_nret, w_getI, w_getJ, w_getR, w_putI, w_putZ, w_putJ, w_iald, w_zald, w_iast, w_zast, w_alen, w_sI, w_sJ, w_sV, w_vI, w_vJ, w_vV, w_tI, w_mmax, w_mmin, w_mabs, w_lmax, w_acopy, gL, sL, kl_i, kl_l, kl_r, kl_s, kl_m, qI_i, qJ_l, qA_r, qA_s, pI_i, pJ_l, pA_r, pS_s, pM_m, pV_v, c1_i, c1_r, c1_s, c1_m, cS_0, cS_i, cS_l, cS_r, cS_s, cS_m, pN, z_rc_r, zE1, zE2, zE3, true_and, and_true, Nat.zero_add, Nat.reduceAdd, Nat.reduceLeDiff, true_or, or_true, Int.reduceLE, Int.reduceLT, zcmp_l, zcmp_g, zcmp_e, zcmp_le, mo, mf0, mz0, mf1, mz1, mf2, mz2, mf6, mz6, mf10, mz10, mf11, mz11, mf12, mz12, mf13, mz13, mf14, mz14, mf16, mz16, mf17, mz17, mf18, mz18, mf19, mz19, mi3, mi7, mi8, mi9, mi15, mi4, mi5, mi20, ma125, mn125, ma126, mn126, ma127, mn127, ma128, mn128, ma129, mn129, ma130, mn130, ma131, mn131, ma132, mn132, ma133, mn133, ma134, mn134, ma135, mn135, ma136, mn136, ma137, mn137]
      rw [hq 0 (by omega) (by omega), hq.t 4 k (by omega) (by omega), hq.t 10 k (by omega) (by omega)]
      refine ⟨⟨by omega, by omega⟩, by omega, by omega, fun w => absurd w (by omega), fun _ => ⟨fun q => up 1 (Or.inr ⟨rfl, ?_⟩), fun q => ⟨⟨by omega, by omega⟩, ⟨by omega, by omega⟩, by omega, by omega, fun q2 => up 0 (Or.inl ⟨rfl, no (fun w => q2 w.1) q⟩), fun q2 => ⟨⟨by omega, by omega⟩, ⟨by omega, by omega⟩, by omega, by omega, fun q3 => up 0 (Or.inl ⟨rfl, no (fun w => q3 w.2) q⟩), fun q3 => up 1 (Or.inr ⟨rfl, Or.inr ⟨Decidable.not_not.mp q2, Decidable.not_not.mp q3⟩⟩)⟩⟩⟩⟩
      rcases hi with ⟨e, _⟩ | ⟨_, h⟩
      · exact absurd e q
      · exact Or.inl h
  refine e_X6_isLadderDown ?_
  simp only [tX6_isLadderDown_0, w_ic, w_lc, w_lds, w_ild, w_lld, w_ald, w_ist, w_lst, w_ast, w_iinc, w_iadd, w_isub, w_imul, w_idiv, w_irem, w_iand, w_ior, w_ixor, w_ishl, w_ishr, w_iushr, w_ineg, w_ladd, w_lsub, w_lmul, w_ldiv, w_lrem, w_lcmp, w_i2l, w_l2i, w_dup, w_pop, w_dup2, w_ieq, w_zeq, w_ine, w_zne, w_ilt, w_zlt, w_ige, w_zge, w_igt, w_zgt, w_ile, w_zle, w_cut, w_tsw, zsw, w_iret, w_zret, w_lret, w_vret, w_nret, w_getI, w_getJ, w_getR, w_putI, w_putZ, w_putJ, w_iald, w_zald, w_iast, w_zast, w_alen, w_sI, w_sJ, w_sV, w_vI, w_vJ, w_vV, w_tI, w_mmax, w_mmin, w_mabs, w_lmax, w_acopy, gL, sL, kl_i, kl_l, kl_r, kl_s, kl_m, qI_i, qJ_l, qA_r, qA_s, pI_i, pJ_l, pA_r, pS_s, pM_m, pV_v, c1_i, c1_r, c1_s, c1_m, cS_0, cS_i, cS_l, cS_r, cS_s, cS_m, pN, z_rc_r, zE1, zE2, zE3, true_and, and_true, Nat.zero_add, Nat.reduceAdd, Nat.reduceLeDiff, true_or, or_true, Int.reduceLE, Int.reduceLT, zcmp_l, zcmp_g, zcmp_e, zcmp_le, mo, mf0, mz0, mf1, mz1, mf2, mz2, mf6, mz6, mf10, mz10, mf11, mz11, mf12, mz12, mf13, mz13, mf14, mz14, mf16, mz16, mf17, mz17, mf18, mz18, mf19, mz19, mi3, mi7, mi8, mi9, mi15, mi4, mi5, mi20, ma125, mn125, ma126, mn126, ma127, mn127, ma128, mn128, ma129, mn129, ma130, mn130, ma131, mn131, ma132, mn132, ma133, mn133, ma134, mn134, ma135, mn135, ma136, mn136, ma137, mn137]
  exact loop _ 0 0 rfl (by omega) (by omega) (Or.inl ⟨rfl, wEx_0⟩)
theorem m_leads {r x y : Int} {a : Int → Int} {D : Mem} {P : Int → Mem → Prop} (hr : rOK r) (hq : yQ D r a) (n0 : 0 ≤ a 0 ∧ a 0 ≤ 6) (hx : inC x) (hy : inC y) (h1 : adjO (sOp a) x y → P 1 D) (h0 : ¬ adjO (sOp a) x y → P 0 D) : zC miX6_leads [zr 124, zi r, zi x, zi y] D P := by
  have x0 := hx.1
  have x1 := hx.2
  have y0 := hy.1
  have y1 := hy.2
  have yes : ∀ v4 v5 : AV, adjO (sOp a) x y → zW miX6_leads P 63 [zr 124, zi r, zi x, zi y, v4, v5] D := by
    intro v4 v5 h
    refine sX6_leads_63 _ _ _ _ _ ?_
    simp only [tX6_leads_63, w_ic, w_lc, w_lds, w_ild, w_lld, w_ald, w_ist, w_lst, w_ast, w_iinc, w_iadd, w_isub, w_imul, w_idiv, w_irem, w_iand, w_ior, w_ixor, w_ishl, w_ishr, w_iushr, w_ineg, w_ladd, w_lsub, w_lmul, w_ldiv, w_lrem, w_lcmp, w_i2l, w_l2i, w_dup, w_pop, w_dup2, w_ieq, w_zeq, w_ine, w_zne, w_ilt, w_zlt, w_ige, w_zge, w_igt, w_zgt, w_ile, w_zle, w_cut, w_tsw, zsw, w_iret, w_zret, w_lret, w_vret, w_nret, w_getI, w_getJ, w_getR, w_putI, w_putZ, w_putJ, w_iald, w_zald, w_iast, w_zast, w_alen, w_sI, w_sJ, w_sV, w_vI, w_vJ, w_vV, w_tI, w_mmax, w_mmin, w_mabs, w_lmax, w_acopy, gL, sL, kl_i, kl_l, kl_r, kl_s, kl_m, qI_i, qJ_l, qA_r, qA_s, pI_i, pJ_l, pA_r, pS_s, pM_m, pV_v, c1_i, c1_r, c1_s, c1_m, cS_0, cS_i, cS_l, cS_r, cS_s, cS_m, pN, z_rc_r, zE1, zE2, zE3, true_and, and_true, Nat.zero_add, Nat.reduceAdd, Nat.reduceLeDiff, true_or, or_true, Int.reduceLE, Int.reduceLT, zcmp_l, zcmp_g, zcmp_e, zcmp_le, mo, mf0, mz0, mf1, mz1, mf2, mz2, mf6, mz6, mf10, mz10, mf11, mz11, mf12, mz12, mf13, mz13, mf14, mz14, mf16, mz16, mf17, mz17, mf18, mz18, mf19, mz19, mi3, mi7, mi8, mi9, mi15, mi4, mi5, mi20, ma125, mn125, ma126, mn126, ma127, mn127, ma128, mn128, ma129, mn129, ma130, mn130, ma131, mn131, ma132, mn132, ma133, mn133, ma134, mn134, ma135, mn135, ma136, mn136, ma137, mn137]
    refine sX6_leads_68 _ _ _ _ _ ?_
    simp only [tX6_leads_68, w_ic, w_lc, w_lds, w_ild, w_lld, w_ald, w_ist, w_lst, w_ast, w_iinc, w_iadd, w_isub, w_imul, w_idiv, w_irem, w_iand, w_ior, w_ixor, w_ishl, w_ishr, w_iushr, w_ineg, w_ladd, w_lsub, w_lmul, w_ldiv, w_lrem, w_lcmp, w_i2l, w_l2i, w_dup, w_pop, w_dup2, w_ieq, w_zeq, w_ine, w_zne, w_ilt, w_zlt, w_ige, w_zge, w_igt, w_zgt, w_ile, w_zle, w_cut, w_tsw, zsw, w_iret, w_zret, w_lret, w_vret, w_nret, w_getI, w_getJ, w_getR, w_putI, w_putZ, w_putJ, w_iald, w_zald, w_iast, w_zast, w_alen, w_sI, w_sJ, w_sV, w_vI, w_vJ, w_vV, w_tI, w_mmax, w_mmin, w_mabs, w_lmax, w_acopy, gL, sL, kl_i, kl_l, kl_r, kl_s, kl_m, qI_i, qJ_l, qA_r, qA_s, pI_i, pJ_l, pA_r, pS_s, pM_m, pV_v, c1_i, c1_r, c1_s, c1_m, cS_0, cS_i, cS_l, cS_r, cS_s, cS_m, pN, z_rc_r, zE1, zE2, zE3, true_and, and_true, Nat.zero_add, Nat.reduceAdd, Nat.reduceLeDiff, true_or, or_true, Int.reduceLE, Int.reduceLT, zcmp_l, zcmp_g, zcmp_e, zcmp_le, mo, mf0, mz0, mf1, mz1, mf2, mz2, mf6, mz6, mf10, mz10, mf11, mz11, mf12, mz12, mf13, mz13, mf14, mz14, mf16, mz16, mf17, mz17, mf18, mz18, mf19, mz19, mi3, mi7, mi8, mi9, mi15, mi4, mi5, mi20, ma125, mn125, ma126, mn126, ma127, mn127, ma128, mn128, ma129, mn129, ma130, mn130, ma131, mn131, ma132, mn132, ma133, mn133, ma134, mn134, ma135, mn135, ma136, mn136, ma137, mn137]
    exact h1 h
  have no : ∀ v4 v5 : AV, ¬ adjO (sOp a) x y → zW miX6_leads P 67 [zr 124, zi r, zi x, zi y, v4, v5] D := by
    intro v4 v5 h
    refine sX6_leads_67 _ _ _ _ _ ?_
    simp only [tX6_leads_67, w_ic, w_lc, w_lds, w_ild, w_lld, w_ald, w_ist, w_lst, w_ast, w_iinc, w_iadd, w_isub, w_imul, w_idiv, w_irem, w_iand, w_ior, w_ixor, w_ishl, w_ishr, w_iushr, w_ineg, w_ladd, w_lsub, w_lmul, w_ldiv, w_lrem, w_lcmp, w_i2l, w_l2i, w_dup, w_pop, w_dup2, w_ieq, w_zeq, w_ine, w_zne, w_ilt, w_zlt, w_ige, w_zge, w_igt, w_zgt, w_ile, w_zle, w_cut, w_tsw, zsw, w_iret, w_zret, w_lret, w_vret, w_nret, w_getI, w_getJ, w_getR, w_putI, w_putZ, w_putJ, w_iald, w_zald, w_iast, w_zast, w_alen, w_sI, w_sJ, w_sV, w_vI, w_vJ, w_vV, w_tI, w_mmax, w_mmin, w_mabs, w_lmax, w_acopy, gL, sL, kl_i, kl_l, kl_r, kl_s, kl_m, qI_i, qJ_l, qA_r, qA_s, pI_i, pJ_l, pA_r, pS_s, pM_m, pV_v, c1_i, c1_r, c1_s, c1_m, cS_0, cS_i, cS_l, cS_r, cS_s, cS_m, pN, z_rc_r, zE1, zE2, zE3, true_and, and_true, Nat.zero_add, Nat.reduceAdd, Nat.reduceLeDiff, true_or, or_true, Int.reduceLE, Int.reduceLT, zcmp_l, zcmp_g, zcmp_e, zcmp_le, mo, mf0, mz0, mf1, mz1, mf2, mz2, mf6, mz6, mf10, mz10, mf11, mz11, mf12, mz12, mf13, mz13, mf14, mz14, mf16, mz16, mf17, mz17, mf18, mz18, mf19, mz19, mi3, mi7, mi8, mi9, mi15, mi4, mi5, mi20, ma125, mn125, ma126, mn126, ma127, mn127, ma128, mn128, ma129, mn129, ma130, mn130, ma131, mn131, ma132, mn132, ma133, mn133, ma134, mn134, ma135, mn135, ma136, mn136, ma137, mn137]
    refine sX6_leads_68 _ _ _ _ _ ?_
    simp only [tX6_leads_68, w_ic, w_lc, w_lds, w_ild, w_lld, w_ald, w_ist, w_lst, w_ast, w_iinc, w_iadd, w_isub, w_imul, w_idiv, w_irem, w_iand, w_ior, w_ixor, w_ishl, w_ishr, w_iushr, w_ineg, w_ladd, w_lsub, w_lmul, w_ldiv, w_lrem, w_lcmp, w_i2l, w_l2i, w_dup, w_pop, w_dup2, w_ieq, w_zeq, w_ine, w_zne, w_ilt, w_zlt, w_ige, w_zge, w_igt, w_zgt, w_ile, w_zle, w_cut, w_tsw, zsw, w_iret, w_zret, w_lret, w_vret, w_nret, w_getI, w_getJ, w_getR, w_putI, w_putZ, w_putJ, w_iald, w_zald, w_iast, w_zast, w_alen, w_sI, w_sJ, w_sV, w_vI, w_vJ, w_vV, w_tI, w_mmax, w_mmin, w_mabs, w_lmax, w_acopy, gL, sL, kl_i, kl_l, kl_r, kl_s, kl_m, qI_i, qJ_l, qA_r, qA_s, pI_i, pJ_l, pA_r, pS_s, pM_m, pV_v, c1_i, c1_r, c1_s, c1_m, cS_0, cS_i, cS_l, cS_r, cS_s, cS_m, pN, z_rc_r, zE1, zE2, zE3, true_and, and_true, Nat.zero_add, Nat.reduceAdd, Nat.reduceLeDiff, true_or, or_true, Int.reduceLE, Int.reduceLT, zcmp_l, zcmp_g, zcmp_e, zcmp_le, mo, mf0, mz0, mf1, mz1, mf2, mz2, mf6, mz6, mf10, mz10, mf11, mz11, mf12, mz12, mf13, mz13, mf14, mz14, mf16, mz16, mf17, mz17, mf18, mz18, mf19, mz19, mi3, mi7, mi8, mi9, mi15, mi4, mi5, mi20, ma125, mn125, ma126, mn126, ma127, mn127, ma128, mn128, ma129, mn129, ma130, mn130, ma131, mn131, ma132, mn132, ma133, mn133, ma134, mn134, ma135, mn135, ma136, mn136, ma137, mn137]
    exact h0 h
  have main : ∀ lo hi : Int, ∀ v5 : AV, ((x < y ∧ lo = x ∧ hi = y) ∨ (y ≤ x ∧ lo = y ∧ hi = x)) → z_WF miX6_leads (zE P) 22 [zr 124, zi r, zi x, zi y, zi lo, v5] [zi hi] zg D := by
    intro lo hi v5 hlh
    have l0 : 0 ≤ lo ∧ lo ≤ hi ∧ hi < 20 := by omega
    have snd : ¬ (hi - lo = 1 ∧ lo / 4 = hi / 4) → ∀ v5 : AV, zW miX6_leads P 44 [zr 124, zi r, zi x, zi y, zi lo, zi hi] D := by
      intro q _
      refine sX6_leads_44 _ _ _ _ _ ?_
      simp only [tX6_leads_44, w_ic, w_lc, w_lds, w_ild, w_lld, w_ald, w_ist, w_lst, w_ast, w_iinc, w_iadd, w_isub, w_imul, w_idiv, w_irem, w_iand, w_ior, w_ixor, w_ishl, w_ishr, w_iushr, w_ineg, w_ladd, w_lsub, w_lmul, w_ldiv, w_lrem, w_lcmp, w_i2l, w_l2i, w_dup, w_pop, w_dup2, w_ieq, w_zeq, w_ine, w_zne, w_ilt, w_zlt, w_ige, w_zge, w_igt, w_zgt, w_ile, w_zle, w_cut, w_tsw, zsw, w_iret, w_zret, w_lret, w_vret, w_nret, w_getI, w_getJ, w_getR, w_putI, w_putZ, w_putJ, w_iald, w_zald, w_iast, w_zast, w_alen, w_sI, w_sJ, w_sV, w_vI, w_vJ, w_vV, w_tI, w_mmax, w_mmin, w_mabs, w_lmax, w_acopy, gL, sL, kl_i, kl_l, kl_r, kl_s, kl_m, qI_i, qJ_l, qA_r, qA_s, pI_i, pJ_l, pA_r, pS_s, pM_m, pV_v, c1_i, c1_r, c1_s, c1_m, cS_0, cS_i, cS_l, cS_r, cS_s, cS_m, pN, z_rc_r, zE1, zE2, zE3, true_and, and_true, Nat.zero_add, Nat.reduceAdd, Nat.reduceLeDiff, true_or, or_true, Int.reduceLE, Int.reduceLT, zcmp_l, zcmp_g, zcmp_e, zcmp_le, mo, mf0, mz0, mf1, mz1, mf2, mz2, mf6, mz6, mf10, mz10, mf11, mz11, mf12, mz12, mf13, mz13, mf14, mz14, mf16, mz16, mf17, mz17, mf18, mz18, mf19, mz19, mi3, mi7, mi8, mi9, mi15, mi4, mi5, mi20, ma125, mn125, ma126, mn126, ma127, mn127, ma128, mn128, ma129, mn129, ma130, mn130, ma131, mn131, ma132, mn132, ma133, mn133, ma134, mn134, ma135, mn135, ma136, mn136, ma137, mn137]
      refine ⟨⟨by omega, by omega⟩, fun q2 => no _ _ ?_, fun q2 => m_isLadderDown hr hq n0 (fun q3 => ⟨fun w => absurd w (by decide), fun _ => yes _ _ ?_⟩) (fun q3 => ⟨fun _ => no _ _ ?_, fun w => absurd rfl w⟩)⟩
      · rintro (⟨e1, e2⟩ | ⟨e1, e2⟩ | ⟨e1, e2⟩ | ⟨e1, e2⟩)
        · exact q (by rcases hlh with ⟨-, p, p2⟩ | ⟨-, p, p2⟩ <;> subst p <;> subst p2 <;> omega)
        · exact q (by rcases hlh with ⟨-, p, p2⟩ | ⟨-, p, p2⟩ <;> subst p <;> subst p2 <;> omega)
        · omega
        · omega
      · rcases hlh with ⟨p0, p, p2⟩ | ⟨p0, p, p2⟩
        · subst p; exact Or.inr (Or.inr (Or.inl ⟨by omega, q3⟩))
        · subst p; exact Or.inr (Or.inr (Or.inr ⟨by omega, q3⟩))
      · rintro (⟨e1, e2⟩ | ⟨e1, e2⟩ | ⟨e1, e2⟩ | ⟨e1, e2⟩)
        · exact q (by rcases hlh with ⟨-, p, p2⟩ | ⟨-, p, p2⟩ <;> subst p <;> subst p2 <;> omega)
        · exact q (by rcases hlh with ⟨-, p, p2⟩ | ⟨-, p, p2⟩ <;> subst p <;> subst p2 <;> omega)
        · have : lo = x := by omega
          rw [this] at q3; exact q3 e2
        · have : lo = y := by omega
          rw [this] at q3; exact q3 e2
    refine sX6_leads_22 _ _ _ _ _ ?_
    simp only [tX6_leads_22, w_ic, w_lc, w_lds, w_ild, w_lld, w_ald, w_ist, w_lst, w_ast, w_iinc, w_iadd, w_isub, w_imul, w_idiv, w_irem, w_iand, w_ior, w_ixor, w_ishl, w_ishr, w_iushr, w_ineg, w_ladd, w_lsub, w_lmul, w_ldiv, w_lrem, w_lcmp, w_i2l, w_l2i, w_dup, w_pop, w_dup2, w_ieq, w_zeq, w_ine, w_zne, w_ilt, w_zlt, w_ige, w_zge, w_igt, w_zgt, w_ile, w_zle, w_cut, w_tsw, zsw, w_iret, w_zret, w_lret, w_vret, w_nret, w_getI, w_getJ, w_getR, w_putI, w_putZ, w_putJ, w_iald, w_zald, w_iast, w_zast, w_alen, w_sI, w_sJ, w_sV, w_vI, w_vJ, w_vV, w_tI, w_mmax, w_mmin, w_mabs, w_lmax, w_acopy, gL, sL, kl_i, kl_l, kl_r, kl_s, kl_m, qI_i, qJ_l, qA_r, qA_s, pI_i, pJ_l, pA_r, pS_s, pM_m, pV_v, c1_i, c1_r, c1_s, c1_m, cS_0, cS_i, cS_l, cS_r, cS_s, cS_m, pN, z_rc_r, zE1, zE2, zE3, true_and, and_true, Nat.zero_add, Nat.reduceAdd, Nat.reduceLeDiff, true_or, or_true, Int.reduceLE, Int.reduceLT, zcmp_l, zcmp_g, zcmp_e, zcmp_le, mo, mf0, mz0, mf1, mz1, mf2, mz2, mf6, mz6, mf10, mz10, mf11, mz11, mf12, mz12, mf13, mz13, mf14, mz14, mf16, mz16, mf17, mz17, mf18, mz18, mf19, mz19, mi3, mi7, mi8, mi9, mi15, mi4, mi5, mi20, ma125, mn125, ma126, mn126, ma127, mn127, ma128, mn128, ma129, mn129, ma130, mn130, ma131, mn131, ma132, mn132, ma133, mn133, ma134, mn134, ma135, mn135, ma136, mn136, ma137, mn137]
    refine ⟨⟨by omega, by omega⟩, fun q => snd (fun w => q w.1) v5, fun q => ⟨by omega, by omega, fun q2 => yes _ _ ?_, fun q2 => snd (fun w => q2 w.2) v5⟩⟩
    rcases hlh with ⟨p0, p, p2⟩ | ⟨p0, p, p2⟩
    · subst p; subst p2; exact Or.inl ⟨by omega, q2⟩
    · subst p; subst p2; exact Or.inr (Or.inl ⟨by omega, q2.symm⟩)
  have mid : ∀ lo : Int, ∀ v4 v5 : AV, ((x < y ∧ lo = x) ∨ (y ≤ x ∧ lo = y)) → z_WF miX6_leads (zE P) 10 [zr 124, zi r, zi x, zi y, v4, v5] [zi lo] zg D := by
    intro lo v4 v5 h
    refine sX6_leads_10 _ _ _ _ _ ?_
    simp only [tX6_leads_10, w_ic, w_lc, w_lds, w_ild, w_lld, w_ald, w_ist, w_lst, w_ast, w_iinc, w_iadd, w_isub, w_imul, w_idiv, w_irem, w_iand, w_ior, w_ixor, w_ishl, w_ishr, w_iushr, w_ineg, w_ladd, w_lsub, w_lmul, w_ldiv, w_lrem, w_lcmp, w_i2l, w_l2i, w_dup, w_pop, w_dup2, w_ieq, w_zeq, w_ine, w_zne, w_ilt, w_zlt, w_ige, w_zge, w_igt, w_zgt, w_ile, w_zle, w_cut, w_tsw, zsw, w_iret, w_zret, w_lret, w_vret, w_nret, w_getI, w_getJ, w_getR, w_putI, w_putZ, w_putJ, w_iald, w_zald, w_iast, w_zast, w_alen, w_sI, w_sJ, w_sV, w_vI, w_vJ, w_vV, w_tI, w_mmax, w_mmin, w_mabs, w_lmax, w_acopy, gL, sL, kl_i, kl_l, kl_r, kl_s, kl_m, qI_i, qJ_l, qA_r, qA_s, pI_i, pJ_l, pA_r, pS_s, pM_m, pV_v, c1_i, c1_r, c1_s, c1_m, cS_0, cS_i, cS_l, cS_r, cS_s, cS_m, pN, z_rc_r, zE1, zE2, zE3, true_and, and_true, Nat.zero_add, Nat.reduceAdd, Nat.reduceLeDiff, true_or, or_true, Int.reduceLE, Int.reduceLT, zcmp_l, zcmp_g, zcmp_e, zcmp_le, mo, mf0, mz0, mf1, mz1, mf2, mz2, mf6, mz6, mf10, mz10, mf11, mz11, mf12, mz12, mf13, mz13, mf14, mz14, mf16, mz16, mf17, mz17, mf18, mz18, mf19, mz19, mi3, mi7, mi8, mi9, mi15, mi4, mi5, mi20, ma125, mn125, ma126, mn126, ma127, mn127, ma128, mn128, ma129, mn129, ma130, mn130, ma131, mn131, ma132, mn132, ma133, mn133, ma134, mn134, ma135, mn135, ma136, mn136, ma137, mn137]
    exact ⟨fun q => main lo x _ (by omega), fun q => main lo y _ (by omega)⟩
  refine e_X6_leads ?_
  simp only [tX6_leads_0, w_ic, w_lc, w_lds, w_ild, w_lld, w_ald, w_ist, w_lst, w_ast, w_iinc, w_iadd, w_isub, w_imul, w_idiv, w_irem, w_iand, w_ior, w_ixor, w_ishl, w_ishr, w_iushr, w_ineg, w_ladd, w_lsub, w_lmul, w_ldiv, w_lrem, w_lcmp, w_i2l, w_l2i, w_dup, w_pop, w_dup2, w_ieq, w_zeq, w_ine, w_zne, w_ilt, w_zlt, w_ige, w_zge, w_igt, w_zgt, w_ile, w_zle, w_cut, w_tsw, zsw, w_iret, w_zret, w_lret, w_vret, w_nret, w_getI, w_getJ, w_getR, w_putI, w_putZ, w_putJ, w_iald, w_zald, w_iast, w_zast, w_alen, w_sI, w_sJ, w_sV, w_vI, w_vJ, w_vV, w_tI, w_mmax, w_mmin, w_mabs, w_lmax, w_acopy, gL, sL, kl_i, kl_l, kl_r, kl_s, kl_m, qI_i, qJ_l, qA_r, qA_s, pI_i, pJ_l, pA_r, pS_s, pM_m, pV_v, c1_i, c1_r, c1_s, c1_m, cS_0, cS_i, cS_l, cS_r, cS_s, cS_m, pN, z_rc_r, zE1, zE2, zE3, true_and, and_true, Nat.zero_add, Nat.reduceAdd, Nat.reduceLeDiff, true_or, or_true, Int.reduceLE, Int.reduceLT, zcmp_l, zcmp_g, zcmp_e, zcmp_le, mo, mf0, mz0, mf1, mz1, mf2, mz2, mf6, mz6, mf10, mz10, mf11, mz11, mf12, mz12, mf13, mz13, mf14, mz14, mf16, mz16, mf17, mz17, mf18, mz18, mf19, mz19, mi3, mi7, mi8, mi9, mi15, mi4, mi5, mi20, ma125, mn125, ma126, mn126, ma127, mn127, ma128, mn128, ma129, mn129, ma130, mn130, ma131, mn131, ma132, mn132, ma133, mn133, ma134, mn134, ma135, mn135, ma136, mn136, ma137, mn137]
  exact ⟨fun q => mid y _ _ (by omega), fun q => mid x _ _ (by omega)⟩
theorem m_goalOf {r i : Int} {a : Int → Int} {D : Mem} {P : Int → Mem → Prop} (hr : rOK r) (hq : yQ D r a) (i0 : 0 ≤ i) (i1 : i < 6) (hP : P (sGl a i) D) : zC miX6_goalOf [zr 124, zi r, zi i] D P := by
  have hb := hr.b
  unfold sGl at hP
  refine e_X6_goalOf ?_
  simp only [tX6_goalOf_0, w_ic, w_lc, w_lds, w_ild, w_lld, w_ald, w_ist, w_lst, w_ast, w_iinc, w_iadd, w_isub, w_imul, w_idiv, w_irem, w_iand, w_ior, w_ixor, w_ishl, w_ishr, w_iushr, w_ineg, w_ladd, w_lsub, w_lmul, w_ldiv, w_lrem, w_lcmp, w_i2l, w_l2i, w_dup, w_pop, w_dup2, w_ieq, w_zeq, w_ine, w_zne, w_ilt, w_zlt, w_ige, w_zge, w_igt, w_zgt, w_ile, w_zle, w_cut, w_tsw, zsw, w_iret, w_zret, w_lret, w_vret, w_nret, w_getI, w_getJ, w_getR, w_putI, w_putZ, w_putJ, w_iald, w_zald, w_iast, w_zast, w_alen, w_sI, w_sJ, w_sV, w_vI, w_vJ, w_vV, w_tI, w_mmax, w_mmin, w_mabs, w_lmax, w_acopy, gL, sL, kl_i, kl_l, kl_r, kl_s, kl_m, qI_i, qJ_l, qA_r, qA_s, pI_i, pJ_l, pA_r, pS_s, pM_m, pV_v, c1_i, c1_r, c1_s, c1_m, cS_0, cS_i, cS_l, cS_r, cS_s, cS_m, pN, z_rc_r, zE1, zE2, zE3, true_and, and_true, Nat.zero_add, Nat.reduceAdd, Nat.reduceLeDiff, true_or, or_true, Int.reduceLE, Int.reduceLT, zcmp_l, zcmp_g, zcmp_e, zcmp_le, mo, mf0, mz0, mf1, mz1, mf2, mz2, mf6, mz6, mf10, mz10, mf11, mz11, mf12, mz12, mf13, mz13, mf14, mz14, mf16, mz16, mf17, mz17, mf18, mz18, mf19, mz19, mi3, mi7, mi8, mi9, mi15, mi4, mi5, mi20, ma125, mn125, ma126, mn126, ma127, mn127, ma128, mn128, ma129, mn129, ma130, mn130, ma131, mn131, ma132, mn132, ma133, mn133, ma134, mn134, ma135, mn135, ma136, mn136, ma137, mn137]
  rw [hq.t 40 i (by omega) (by omega), hq.t 28 i (by omega) (by omega), hq.t 22 i (by omega) (by omega)]
  refine ⟨⟨by omega, by omega⟩, ⟨by omega, by omega⟩, by omega, by omega, fun q => ⟨⟨by omega, by omega⟩, ⟨by omega, by omega⟩, by omega, by omega, ?_⟩, fun q => ⟨⟨by omega, by omega⟩, ⟨by omega, by omega⟩, by omega, by omega, ?_⟩⟩
  · rw [if_neg q] at hP; exact hP
  · rw [if_pos (Decidable.not_not.mp q)] at hP; exact hP
def zFar (d : Int) : Int := if d = -1 then 1000000 else d
theorem bI_init {adj : Int → Int → Prop} {S : Int → Prop} {d q : Int → Int} {t : Int} (h0 : ∀ c, inC c → (S c → d c = 0) ∧ (¬ S c → d c = 1000000)) (ht : t = zcn 1000000 d 20) (h1 : ∀ i, 0 ≤ i → i < t → inC (q i) ∧ S (q i)) (h2 : ∀ c, inC c → S c → ∃ i, 0 ≤ i ∧ i < t ∧ q i = c) : bI adj S 1000000 d q 0 t := by
  have t0 := zcn_le 1000000 d 20
  have dn : ∀ i, 0 ≤ i → i < t → d (q i) = 0 := fun i i0 i1 => (h0 _ (h1 i i0 i1).1).1 (h1 i i0 i1).2
  refine ⟨⟨by omega, by omega, ht⟩, fun i i0 i1 => ⟨(h1 i i0 i1).1, by rw [dn i i0 i1]; decide⟩, fun c hc hv => ?_, fun c hc hS => (h0 c hc).1 hS, fun i j i0 i1 i2 => by rw [dn i i0 (by omega), dn j (by omega) i2]; omega, fun j j0 j1 j2 => by rw [dn j j0 j1, dn 0 (by omega) j2]; omega, fun i b i0 i1 => by omega⟩
  by_cases hS : S c
  · obtain ⟨i, i0, i1, i2⟩ := h2 c hc hS
    have e := (h0 c hc).1 hS
    rw [e]
    exact ⟨⟨i, i0, i1, i2⟩, by omega, by omega, hc, hS⟩
  · exact absurd ((h0 c hc).2 hS) hv
theorem m_laysAway {r gl : Int} {a : Int → Int} {S : Int → Prop} {D : Mem} {P : Int → Mem → Prop} (hr : rOK r) (hq : yQ D r a) (n0 : 0 ≤ a 0 ∧ a 0 ≤ 6) (hS : ∀ c, inC c → (S c ↔ (gl < 0 ∧ c < 4) ∨ (0 ≤ gl ∧ c = gl))) (hP : ∀ D', yA D D' → (∀ c, inC c → D' 129 c = zFar (sd (adjO (sOp a)) S c) ∧ -1 ≤ sd (adjO (sOp a)) S c ∧ sd (adjO (sOp a)) S c < 20) → P 0 D') : zC miX6_laysAway [zr 124, zi r, zi gl] D P := by
  have outer : ∀ (m : Nat) (h t : Int) (v5 v6 : AV) (D1 : Mem), (20 - h).toNat = m → yA D D1 → bI (adjO (sOp a)) S 1000000 (D1 129) (D1 130) h t → zW miX6_laysAway P 86 [zr 124, zi r, zi gl, zi t, zi h, v5, v6] D1 := by
    intro m
    induction m using Nat.strongRecOn with
    | _ m ih =>
    intro h t v5 v6 D1 hm hf I
    have ht := bI_t I
    have h0 := I.1.1
    have h1 := I.1.2.1
    refine sX6_laysAway_86 _ _ _ _ _ ?_
    simp only [tX6_laysAway_86, w_ic, w_lc, w_lds, w_ild, w_lld, w_ald, w_ist, w_lst, w_ast, w_iinc, w_iadd, w_isub, w_imul, w_idiv, w_irem, w_iand, w_ior, w_ixor, w_ishl, w_ishr, w_iushr, w_ineg, w_ladd, w_lsub, w_lmul, w_ldiv, w_lrem, w_lcmp, w_i2l, w_l2i, w_dup, w_pop, w_dup2, w_ieq, w_zeq, w_ine, w_zne, w_ilt, w_zlt, w_ige, w_zge, w_igt, w_zgt, w_ile, w_zle, w_cut, w_tsw, zsw, w_iret, w_zret, w_lret, w_vret, w_nret, w_getI, w_getJ, w_getR, w_putI, w_putZ, w_putJ, w_iald, w_zald, w_iast, w_zast, w_alen, w_sI, w_sJ, w_sV, w_vI, w_vJ, w_vV, w_tI, w_mmax, w_mmin, w_mabs, w_lmax, w_acopy, gL, sL, kl_i, kl_l, kl_r, kl_s, kl_m, qI_i, qJ_l, qA_r, qA_s, pI_i, pJ_l, pA_r, pS_s, pM_m, pV_v, c1_i, c1_r, c1_s, c1_m, cS_0, cS_i, cS_l, cS_r, cS_s, cS_m, pN, z_rc_r, zE1, zE2, zE3, true_and, and_true, Nat.zero_add, Nat.reduceAdd, Nat.reduceLeDiff, true_or, or_true, Int.reduceLE, Int.reduceLT, zcmp_l, zcmp_g, zcmp_e, zcmp_le, mo, mf0, mz0, mf1, mz1, mf2, mz2, mf6, mz6, mf10, mz10, mf11, mz11, mf12, mz12, mf13, mz13, mf14, mz14, mf16, mz16, mf17, mz17, mf18, mz18, mf19, mz19, mi3, mi7, mi8, mi9, mi15, mi4, mi5, mi20, ma125, mn125, ma126, mn126, ma127, mn127, ma128, mn128, ma129, mn129, ma130, mn130, ma131, mn131, ma132, mn132, ma133, mn133, ma134, mn134, ma135, mn135, ma136, mn136, ma137, mn137]
    refine ⟨fun q => ?_, fun q => ⟨h0, by omega, ?_⟩⟩
    · have e : h = t := by omega
      subst e
      refine hP D1 hf fun c hc => ?_
      rw [bI_end (Or.inr (by omega)) I hc]
      unfold zFar
      by_cases e : D1 129 c = 1000000
      · rw [if_pos e, if_pos rfl, e]; exact ⟨rfl, by decide, by decide⟩
      · rw [if_neg e]
        have := (I.2.2.1 c hc e).2
        rw [if_neg (by omega)]
        exact ⟨rfl, by omega, by omega⟩
    · have hfr := (I.2.1 h h0 (by omega)).1
      have inner : ∀ (mm : Nat) (b t : Int) (D2 : Mem), (20 - b).toNat = mm → 0 ≤ b → b ≤ 20 → D2 130 h = D1 130 h → yA D D2 → bI (adjO (sOp a)) S 1000000 (D2 129) (D2 130) h t → h < t → (∀ x, 0 ≤ x → x < b → adjO (sOp a) (D1 130 h) x → D2 129 x ≠ 1000000) → zW miX6_laysAway P 104 [zr 124, zi r, zi gl, zi t, zi h, zi (D1 130 h), zi b] D2 := by
        intro mm
        induction mm with
        | zero =>
          intro b t D2 hmm b0 b1 hq2 g J hit dn
          have ht' := bI_t J
          refine sX6_laysAway_104 _ _ _ _ _ ?_
          simp only [tX6_laysAway_104, w_ic, w_lc, w_lds, w_ild, w_lld, w_ald, w_ist, w_lst, w_ast, w_iinc, w_iadd, w_isub, w_imul, w_idiv, w_irem, w_iand, w_ior, w_ixor, w_ishl, w_ishr, w_iushr, w_ineg, w_ladd, w_lsub, w_lmul, w_ldiv, w_lrem, w_lcmp, w_i2l, w_l2i, w_dup, w_pop, w_dup2, w_ieq, w_zeq, w_ine, w_zne, w_ilt, w_zlt, w_ige, w_zge, w_igt, w_zgt, w_ile, w_zle, w_cut, w_tsw, zsw, w_iret, w_zret, w_lret, w_vret, w_nret, w_getI, w_getJ, w_getR, w_putI, w_putZ, w_putJ, w_iald, w_zald, w_iast, w_zast, w_alen, w_sI, w_sJ, w_sV, w_vI, w_vJ, w_vV, w_tI, w_mmax, w_mmin, w_mabs, w_lmax, w_acopy, gL, sL, kl_i, kl_l, kl_r, kl_s, kl_m, qI_i, qJ_l, qA_r, qA_s, pI_i, pJ_l, pA_r, pS_s, pM_m, pV_v, c1_i, c1_r, c1_s, c1_m, cS_0, cS_i, cS_l, cS_r, cS_s, cS_m, pN, z_rc_r, zE1, zE2, zE3, true_and, and_true, Nat.zero_add, Nat.reduceAdd, Nat.reduceLeDiff, true_or, or_true, Int.reduceLE, Int.reduceLT, zcmp_l, zcmp_g, zcmp_e, zcmp_le, mo, mf0, mz0, mf1, mz1, mf2, mz2, mf6, mz6, mf10, mz10, mf11, mz11, mf12, mz12, mf13, mz13, mf14, mz14, mf16, mz16, mf17, mz17, mf18, mz18, mf19, mz19, mi3, mi7, mi8, mi9, mi15, mi4, mi5, mi20, ma125, mn125, ma126, mn126, ma127, mn127, ma128, mn128, ma129, mn129, ma130, mn130, ma131, mn131, ma132, mn132, ma133, mn133, ma134, mn134, ma135, mn135, ma136, mn136, ma137, mn137]
          refine ⟨fun _ => ⟨⟨by omega, by omega⟩, ?_⟩, fun w => absurd (by omega) w⟩
          refine ih (20 - (h + 1)).toNat (by omega) (h + 1) t _ _ D2 rfl g (bI_next J hit fun x hx hadj => ?_)
          rw [hq2] at hadj
          exact dn x hx.1 (by have := hx.2; omega) hadj
        | succ mm ih2 =>
          intro b t D2 hmm b0 b1 hq2 g J hit dn
          have ht' := bI_t J
          have hbC : inC b := ⟨b0, by omega⟩
          have skip : (adjO (sOp a) (D1 130 h) b → D2 129 b ≠ 1000000) → zR (b + 1) ∧ zW miX6_laysAway P 104 [zr 124, zi r, zi gl, zi t, zi h, zi (D1 130 h), zi (b + 1)] D2 := by
            intro hk
            refine ⟨⟨by omega, by omega⟩, ih2 (b + 1) t D2 (by omega) (by omega) (by omega) hq2 g J hit fun x p0 p1 p2 => ?_⟩
            by_cases es : x = b
            · rw [es] at p2 ⊢; exact hk p2
            · exact dn x p0 (by omega) p2
          refine sX6_laysAway_104 _ _ _ _ _ ?_
          simp only [tX6_laysAway_104, w_ic, w_lc, w_lds, w_ild, w_lld, w_ald, w_ist, w_lst, w_ast, w_iinc, w_iadd, w_isub, w_imul, w_idiv, w_irem, w_iand, w_ior, w_ixor, w_ishl, w_ishr, w_iushr, w_ineg, w_ladd, w_lsub, w_lmul, w_ldiv, w_lrem, w_lcmp, w_i2l, w_l2i, w_dup, w_pop, w_dup2, w_ieq, w_zeq, w_ine, w_zne, w_ilt, w_zlt, w_ige, w_zge, w_igt, w_zgt, w_ile, w_zle, w_cut, w_tsw, zsw, w_iret, w_zret, w_lret, w_vret, w_nret, w_getI, w_getJ, w_getR, w_putI, w_putZ, w_putJ, w_iald, w_zald, w_iast, w_zast, w_alen, w_sI, w_sJ, w_sV, w_vI, w_vJ, w_vV, w_tI, w_mmax, w_mmin, w_mabs, w_lmax, w_acopy, gL, sL, kl_i, kl_l, kl_r, kl_s, kl_m, qI_i, qJ_l, qA_r, qA_s, pI_i, pJ_l, pA_r, pS_s, pM_m, pV_v, c1_i, c1_r, c1_s, c1_m, cS_0, cS_i, cS_l, cS_r, cS_s, cS_m, pN, z_rc_r, zE1, zE2, zE3, true_and, and_true, Nat.zero_add, Nat.reduceAdd, Nat.reduceLeDiff, true_or, or_true, Int.reduceLE, Int.reduceLT, zcmp_l, zcmp_g, zcmp_e, zcmp_le, mo, mf0, mz0, mf1, mz1, mf2, mz2, mf6, mz6, mf10, mz10, mf11, mz11, mf12, mz12, mf13, mz13, mf14, mz14, mf16, mz16, mf17, mz17, mf18, mz18, mf19, mz19, mi3, mi7, mi8, mi9, mi15, mi4, mi5, mi20, ma125, mn125, ma126, mn126, ma127, mn127, ma128, mn128, ma129, mn129, ma130, mn130, ma131, mn131, ma132, mn132, ma133, mn133, ma134, mn134, ma135, mn135, ma136, mn136, ma137, mn137]
          refine ⟨fun w => absurd w (by omega), fun _ => ⟨b0, by omega, fun q => skip fun _ => q, fun q => ?_⟩⟩
          have hu : D2 129 b = 1000000 := Decidable.not_not.mp q
          refine m_leads hr (g.q hq) n0 hfr hbC (fun ha => ⟨fun w => absurd w (by decide), fun _ => ?_⟩) (fun ha => ⟨fun _ => skip fun w => absurd w ha, fun w => absurd rfl w⟩)
          have J5 := (J.2.2.1 _ hfr (by rw [← hq2]; exact (J.2.1 h h0 hit).2)).2
          obtain ⟨v1, v2⟩ := bI_visit (Or.inr (by omega)) J hit hbC (by rw [hq2]; exact ha) hu
          have c0 := hfr.1
          have c1 := hfr.2
          have e1 : D2 129 (D1 130 h) < t := J5.2.1
          have e2 : 0 ≤ D2 129 (D1 130 h) := J5.1
          refine ⟨c0, by omega, ⟨by omega, by omega⟩, b0, by omega, by omega, by omega, ⟨by omega, by omega⟩, ⟨by omega, by omega⟩, ?_⟩
          have eD : zU (zU D2 129 b (D2 129 (D1 130 h) + 1)) 130 t b 129 = fU (D2 129) b (D2 129 (D2 130 h) + 1) := by
            rw [zU_ne (by decide), zU_fU, hq2]
          have eQ : zU (zU D2 129 b (D2 129 (D1 130 h) + 1)) 130 t b 130 = fU (D2 130) t b := by
            rw [zU_fU, zU_ne (by decide)]
          refine ih2 (b + 1) (t + 1) _ (by omega) (by omega) (by omega) ?_ ?_ (by rw [eD, eQ]; exact v2) (by omega) fun x p0 p1 p2 => ?_
          · rw [eQ, fU_n (by omega)]; exact hq2
          · intro o o1 o2
            rw [zU_ne o2, zU_ne o1]
            exact g o o1 o2
          · rw [eD]
            by_cases es : x = b
            · rw [es, fU_s, hq2]; omega
            · rw [fU_n es]
              exact dn x p0 (by omega) p2
      exact inner 20 0 t D1 rfl (by omega) (by omega) rfl hf I (by omega) (fun x p0 p1 => by omega)
  have init : ∀ (m : Nat) (c t : Int) (v5 v6 : AV) (D1 : Mem), (20 - c).toNat = m → 0 ≤ c → c ≤ 20 → yA D D1 → (∀ x, 0 ≤ x → x < c → (S x → D1 129 x = 0) ∧ (¬ S x → D1 129 x = 1000000)) → t = zcn 1000000 (D1 129) c.toNat → (∀ i, 0 ≤ i → i < t → (0 ≤ D1 130 i ∧ D1 130 i < c) ∧ S (D1 130 i)) → (∀ x, 0 ≤ x → x < c → S x → ∃ i, 0 ≤ i ∧ i < t ∧ D1 130 i = x) → zW miX6_laysAway P 5 [zr 124, zi r, zi gl, zi t, zi c, v5, v6] D1 := by
    intro m
    induction m with
    | zero =>
      intro c t v5 v6 D1 hm c0 c1 hf a1 a2 a3 a4
      have e : c = 20 := by omega
      rw [e] at a1 a2 a3 a4
      refine sX6_laysAway_5 _ _ _ _ _ ?_
      simp only [tX6_laysAway_5, w_ic, w_lc, w_lds, w_ild, w_lld, w_ald, w_ist, w_lst, w_ast, w_iinc, w_iadd, w_isub, w_imul, w_idiv, w_irem, w_iand, w_ior, w_ixor, w_ishl, w_ishr, w_iushr, w_ineg, w_ladd, w_lsub, w_lmul, w_ldiv, w_lrem, w_lcmp, w_i2l, w_l2i, w_dup, w_pop, w_dup2, w_ieq, w_zeq, w_ine, w_zne, w_ilt, w_zlt, w_ige, w_zge, w_igt, w_zgt, w_ile, w_zle, w_cut, w_tsw, zsw, w_iret, w_zret, w_lret, w_vret, w_nret, w_getI, w_getJ, w_getR, w_putI, w_putZ, w_putJ, w_iald, w_zald, w_iast, w_zast, w_alen, w_sI, w_sJ, w_sV, w_vI, w_vJ, w_vV, w_tI, w_mmax, w_mmin, w_mabs, w_lmax, w_acopy, gL, sL, kl_i, kl_l, kl_r, kl_s, kl_m, qI_i, qJ_l, qA_r, qA_s, pI_i, pJ_l, pA_r, pS_s, pM_m, pV_v, c1_i, c1_r, c1_s, c1_m, cS_0, cS_i, cS_l, cS_r, cS_s, cS_m, pN, z_rc_r, zE1, zE2, zE3, true_and, and_true, Nat.zero_add, Nat.reduceAdd, Nat.reduceLeDiff, true_or, or_true, Int.reduceLE, Int.reduceLT, zcmp_l, zcmp_g, zcmp_e, zcmp_le, mo, mf0, mz0, mf1, mz1, mf2, mz2, mf6, mz6, mf10, mz10, mf11, mz11, mf12, mz12, mf13, mz13, mf14, mz14, mf16, mz16, mf17, mz17, mf18, mz18, mf19, mz19, mi3, mi7, mi8, mi9, mi15, mi4, mi5, mi20, ma125, mn125, ma126, mn126, ma127, mn127, ma128, mn128, ma129, mn129, ma130, mn130, ma131, mn131, ma132, mn132, ma133, mn133, ma134, mn134, ma135, mn135, ma136, mn136, ma137, mn137]
      exact ⟨fun _ => outer _ 0 t _ _ D1 rfl hf (bI_init (fun c hc => a1 c hc.1 hc.2) a2 (fun i i0 i1 => a3 i i0 i1) (fun c hc hS => a4 c hc.1 hc.2 hS)), fun w => absurd (by omega) w⟩
    | succ m ih =>
      intro c t v5 v6 D1 hm c0 c1 hf a1 a2 a3 a4
      have hcC : inC c := ⟨c0, by omega⟩
      have tb := zcn_le 1000000 (D1 129) c.toNat
      have zs : ∀ D2 : Mem, (∀ x, 0 ≤ x → x < c → D2 129 x = D1 129 x) → zcn 1000000 (D2 129) (c + 1).toNat = t + (if D2 129 c = 1000000 then 0 else 1) := by
        intro D2 he
        rw [show (c + 1).toNat = c.toNat + 1 by omega]
        show zcn 1000000 (D2 129) c.toNat + (if D2 129 (c.toNat : Int) = 1000000 then 0 else 1) = _
        rw [Int.toNat_of_nonneg c0, zcn_eq 1000000 (d' := D1 129) c.toNat (fun k hk => he k (by omega) (by omega)), a2]
      have yes : S c → ∀ v5 v6 : AV, (zR (t + 1) ∧ zR (c + 1) ∧ zW miX6_laysAway P 5 [zr 124, zi r, zi gl, zi (t + 1), zi (c + 1), v5, v6] (zU (zU D1 129 c 0) 130 t c)) := by
        intro hSc v5 v6
        refine ⟨⟨by omega, by omega⟩, ⟨by omega, by omega⟩, ih (c + 1) (t + 1) _ _ _ (by omega) (by omega) (by omega) ?_ ?_ ?_ ?_ ?_⟩
        · intro o o1 o2
          rw [zU_ne o2, zU_ne o1]
          exact hf o o1 o2
        · intro x x0 x1
          rw [zU_o (by decide)]
          by_cases e : x = c
          · rw [e, zU_s]
            exact ⟨fun _ => rfl, fun w => absurd hSc w⟩
          · rw [zU_k e]
            exact a1 x x0 (by omega)
        · rw [zs _ (fun x x0 x1 => by rw [zU_o (by decide), zU_k (by omega)]), zU_o (by decide), zU_s, if_neg (by decide)]
        · intro i i0 i1
          by_cases e : i = t
          · rw [e, zU_s]
            exact ⟨⟨c0, by omega⟩, hSc⟩
          · rw [zU_k e, zU_o (by decide)]
            have := a3 i i0 (by omega)
            exact ⟨⟨this.1.1, by omega⟩, this.2⟩
        · intro x x0 x1 hx
          by_cases e : x = c
          · exact ⟨t, by omega, by omega, by rw [zU_s, e]⟩
          · obtain ⟨i, i0, i1, i2⟩ := a4 x x0 (by omega) hx
            exact ⟨i, i0, by omega, by rw [zU_k (by omega), zU_o (by decide)]; exact i2⟩
      have no : ¬ S c → ∀ v5 v6 : AV, zR (c + 1) ∧ zW miX6_laysAway P 5 [zr 124, zi r, zi gl, zi t, zi (c + 1), v5, v6] (zU D1 129 c 1000000) := by
        intro hSc v5 v6
        refine ⟨⟨by omega, by omega⟩, ih (c + 1) t _ _ _ (by omega) (by omega) (by omega) ?_ ?_ ?_ ?_ ?_⟩
        · intro o o1 o2
          rw [zU_ne o1]
          exact hf o o1 o2
        · intro x x0 x1
          by_cases e : x = c
          · rw [e, zU_s]
            exact ⟨fun w => absurd w hSc, fun _ => rfl⟩
          · rw [zU_k e]
            exact a1 x x0 (by omega)
        · rw [zs _ (fun x x0 x1 => by rw [zU_k (by omega)]), zU_s, if_pos rfl]; omega
        · intro i i0 i1
          rw [zU_o (by decide)]
          have := a3 i i0 (by omega)
          exact ⟨⟨this.1.1, by omega⟩, this.2⟩
        · intro x x0 x1 hx
          by_cases e : x = c
          · rw [e] at hx; exact absurd hx hSc
          · obtain ⟨i, i0, i1, i2⟩ := a4 x x0 (by omega) hx
            exact ⟨i, i0, i1, by rw [zU_o (by decide)]; exact i2⟩
      have hh := hS c hcC
      refine sX6_laysAway_5 _ _ _ _ _ ?_
      simp only [tX6_laysAway_5, w_ic, w_lc, w_lds, w_ild, w_lld, w_ald, w_ist, w_lst, w_ast, w_iinc, w_iadd, w_isub, w_imul, w_idiv, w_irem, w_iand, w_ior, w_ixor, w_ishl, w_ishr, w_iushr, w_ineg, w_ladd, w_lsub, w_lmul, w_ldiv, w_lrem, w_lcmp, w_i2l, w_l2i, w_dup, w_pop, w_dup2, w_ieq, w_zeq, w_ine, w_zne, w_ilt, w_zlt, w_ige, w_zge, w_igt, w_zgt, w_ile, w_zle, w_cut, w_tsw, zsw, w_iret, w_zret, w_lret, w_vret, w_nret, w_getI, w_getJ, w_getR, w_putI, w_putZ, w_putJ, w_iald, w_zald, w_iast, w_zast, w_alen, w_sI, w_sJ, w_sV, w_vI, w_vJ, w_vV, w_tI, w_mmax, w_mmin, w_mabs, w_lmax, w_acopy, gL, sL, kl_i, kl_l, kl_r, kl_s, kl_m, qI_i, qJ_l, qA_r, qA_s, pI_i, pJ_l, pA_r, pS_s, pM_m, pV_v, c1_i, c1_r, c1_s, c1_m, cS_0, cS_i, cS_l, cS_r, cS_s, cS_m, pN, z_rc_r, zE1, zE2, zE3, true_and, and_true, Nat.zero_add, Nat.reduceAdd, Nat.reduceLeDiff, true_or, or_true, Int.reduceLE, Int.reduceLT, zcmp_l, zcmp_g, zcmp_e, zcmp_le, mo, mf0, mz0, mf1, mz1, mf2, mz2, mf6, mz6, mf10, mz10, mf11, mz11, mf12, mz12, mf13, mz13, mf14, mz14, mf16, mz16, mf17, mz17, mf18, mz18, mf19, mz19, mi3, mi7, mi8, mi9, mi15, mi4, mi5, mi20, ma125, mn125, ma126, mn126, ma127, mn127, ma128, mn128, ma129, mn129, ma130, mn130, ma131, mn131, ma132, mn132, ma133, mn133, ma134, mn134, ma135, mn135, ma136, mn136, ma137, mn137]
      refine ⟨fun w => absurd w (by omega), fun _ => ⟨fun g0 => ⟨fun q => ?_, fun q => ?_⟩, fun g0 => ⟨fun q => ?_, fun q => ?_⟩⟩⟩
      · have hn : ¬ S c := fun w => by have := hh.mp w; omega
        exact ⟨fun _ => ⟨c0, by omega, fun _ => no hn _ _, fun w => absurd trivial w⟩, fun w => absurd trivial w⟩
      · have hs : S c := hh.mpr (by omega)
        exact ⟨fun w => absurd w (by decide), fun _ => ⟨c0, by omega, fun w => absurd w (by decide), fun _ => ⟨by omega, by omega, yes hs _ _⟩⟩⟩
      · have hn : ¬ S c := fun w => by have := hh.mp w; omega
        exact ⟨fun _ => ⟨c0, by omega, fun _ => no hn _ _, fun w => absurd trivial w⟩, fun w => absurd trivial w⟩
      · have hs : S c := hh.mpr (by omega)
        exact ⟨fun w => absurd w (by decide), fun _ => ⟨c0, by omega, fun w => absurd w (by decide), fun _ => ⟨by omega, by omega, yes hs _ _⟩⟩⟩
  refine e_X6_laysAway ?_
  simp only [tX6_laysAway_0, w_ic, w_lc, w_lds, w_ild, w_lld, w_ald, w_ist, w_lst, w_ast, w_iinc, w_iadd, w_isub, w_imul, w_idiv, w_irem, w_iand, w_ior, w_ixor, w_ishl, w_ishr, w_iushr, w_ineg, w_ladd, w_lsub, w_lmul, w_ldiv, w_lrem, w_lcmp, w_i2l, w_l2i, w_dup, w_pop, w_dup2, w_ieq, w_zeq, w_ine, w_zne, w_ilt, w_zlt, w_ige, w_zge, w_igt, w_zgt, w_ile, w_zle, w_cut, w_tsw, zsw, w_iret, w_zret, w_lret, w_vret, w_nret, w_getI, w_getJ, w_getR, w_putI, w_putZ, w_putJ, w_iald, w_zald, w_iast, w_zast, w_alen, w_sI, w_sJ, w_sV, w_vI, w_vJ, w_vV, w_tI, w_mmax, w_mmin, w_mabs, w_lmax, w_acopy, gL, sL, kl_i, kl_l, kl_r, kl_s, kl_m, qI_i, qJ_l, qA_r, qA_s, pI_i, pJ_l, pA_r, pS_s, pM_m, pV_v, c1_i, c1_r, c1_s, c1_m, cS_0, cS_i, cS_l, cS_r, cS_s, cS_m, pN, z_rc_r, zE1, zE2, zE3, true_and, and_true, Nat.zero_add, Nat.reduceAdd, Nat.reduceLeDiff, true_or, or_true, Int.reduceLE, Int.reduceLT, zcmp_l, zcmp_g, zcmp_e, zcmp_le, mo, mf0, mz0, mf1, mz1, mf2, mz2, mf6, mz6, mf10, mz10, mf11, mz11, mf12, mz12, mf13, mz13, mf14, mz14, mf16, mz16, mf17, mz17, mf18, mz18, mf19, mz19, mi3, mi7, mi8, mi9, mi15, mi4, mi5, mi20, ma125, mn125, ma126, mn126, ma127, mn127, ma128, mn128, ma129, mn129, ma130, mn130, ma131, mn131, ma132, mn132, ma133, mn133, ma134, mn134, ma135, mn135, ma136, mn136, ma137, mn137]
  exact init 20 0 0 _ _ D rfl (by omega) (by omega) yA.rfl (fun x x0 x1 => by omega) rfl (fun i i0 i1 => by omega) (fun x x0 x1 => by omega)
