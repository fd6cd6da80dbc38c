/-! ===== 44: the model: next steps, minutes, loudness, hearing ===== -/
theorem zFar_e {d e : Int} (hd : -1 ≤ d) (hd2 : d < 20) (he : 0 ≤ e) (he2 : e < 20) : zFar d = e ↔ d = e := by
  unfold zFar
  split <;> omega
theorem m_nextOf {r i M : Int} {a : Int → Int} {D : Mem} {P : Int → Mem → Prop} (hr : rOK r) (hq : yQ D r a) (hw : WA M a) (i0 : 0 ≤ i) (i1 : i < a 1) (hP : ∀ D', yA D D' → P (sNa a i) D') : zC miX6_nextOf [zr 124, zi r, zi i] D P := by
  have hb := hr.b
  have n0 := hw.n0
  have n1 := hw.n1
  have hg := hw.gl i0 i1
  have hat : inC (a (34 + i)) := (hw.2.2.1 i i0 i1).2.2.2.1
  have at0 := hat.1
  have at1 := hat.2
  have hd0 := sD_le (sOp a) (sGl a i) (a (34 + i))
  have hd1 : sD (sOp a) (sGl a i) (a (34 + i)) < 20 := sD_lt hg hat
  refine e_X6_nextOf ?_
  simp only [tX6_nextOf_0, w_ic, w_lc, w_lds, w_ild, w_lld, w_ald, w_ist, w_lst, w_ast, w_iinc, w_iadd, w_isub, w_imul, w_idiv, w_irem, w_iand, w_ior, w_ixor, w_ishl, w_ishr, w_iushr, w_ineg, w_ladd, w_lsub, w_lmul, w_ldiv, w_lrem, w_lcmp, w_i2l, w_l2i, w_dup, w_pop, w_dup2, w_ieq, w_zeq, w_ine, w_zne, w_ilt, w_zlt, w_ige, w_zge, w_igt, w_zgt, w_ile, w_zle, w_cut, w_tsw, zsw, w_iret, w_zret, w_lret, w_vret, w_nret, w_getI, w_getJ, w_getR, w_putI, w_putZ, w_putJ, w_iald, w_zald, w_iast, w_zast, w_alen, w_sI, w_sJ, w_sV, w_vI, w_vJ, w_vV, w_tI, w_mmax, w_mmin, w_mabs, w_lmax, w_acopy, gL, sL, kl_i, kl_l, kl_r, kl_s, kl_m, qI_i, qJ_l, qA_r, qA_s, pI_i, pJ_l, pA_r, pS_s, pM_m, pV_v, c1_i, c1_r, c1_s, c1_m, cS_0, cS_i, cS_l, cS_r, cS_s, cS_m, pN, z_rc_r, zE1, zE2, zE3, true_and, and_true, Nat.zero_add, Nat.reduceAdd, Nat.reduceLeDiff, true_or, or_true, Int.reduceLE, Int.reduceLT, zcmp_l, zcmp_g, zcmp_e, zcmp_le, mo, mf0, mz0, mf1, mz1, mf2, mz2, mf6, mz6, mf10, mz10, mf11, mz11, mf12, mz12, mf13, mz13, mf14, mz14, mf16, mz16, mf17, mz17, mf18, mz18, mf19, mz19, mi3, mi7, mi8, mi9, mi15, mi4, mi5, mi20, ma125, mn125, ma126, mn126, ma127, mn127, ma128, mn128, ma129, mn129, ma130, mn130, ma131, mn131, ma132, mn132, ma133, mn133, ma134, mn134, ma135, mn135, ma136, mn136, ma137, mn137]
  rw [hq.t 34 i (by omega) (by omega)]
  refine ⟨⟨by omega, by omega⟩, ⟨by omega, by omega⟩, by omega, by omega, ?_⟩
  refine m_goalOf hr hq i0 (by omega) ⟨fun q => ?_, fun q => ?_⟩
  · refine m_goalOf hr hq i0 (by omega) ?_
    refine m_laysAway (S := fun x => x = sGl a i) hr hq n0 (fun c _ => ⟨fun w => Or.inr ⟨hg.1, w⟩, fun w => w.elim (fun w => by have := hg.1; omega) fun w => w.2⟩) fun D' hf he => ?_
    have hq' := hf.q hq
    have e1 := (he _ hat).1
    rw [e1]
    have e1' : zFar (sd (adjO (sOp a)) (fun x => x = sGl a i) (a (34 + i))) = zFar (sD (sOp a) (sGl a i) (a (34 + i))) := rfl
    rw [e1']
    have hne : sD (sOp a) (sGl a i) (a (34 + i)) ≠ 0 := fun w => q ((sD_0 hg).mp w)
    refine ⟨at0, by omega, fun q2 => ?_, fun q2 => ?_⟩
    · have hz : zFar (sD (sOp a) (sGl a i) (a (34 + i))) = sD (sOp a) (sGl a i) (a (34 + i)) := by
        unfold zFar at q2 ⊢
        split
        · rename_i w; rw [if_pos w] at q2; exact absurd rfl q2
        · rfl
      have hpos : 0 < sD (sOp a) (sGl a i) (a (34 + i)) := by
        unfold zFar at q2
        split at q2
        · exact absurd rfl q2
        · omega
      have loop : ∀ (m : Nat) (b nx : Int), (b + 1).toNat = m → -1 ≤ b → b < 20 → ((∀ x, inC x → b < x → ¬ (adjO (sOp a) (a (34 + i)) x ∧ sD (sOp a) (sGl a i) x = sD (sOp a) (sGl a i) (a (34 + i)) - 1)) ∨ (inC nx ∧ b < nx ∧ adjO (sOp a) (a (34 + i)) nx ∧ sD (sOp a) (sGl a i) nx = sD (sOp a) (sGl a i) (a (34 + i)) - 1 ∧ ∀ x, inC x → b < x → x < nx → ¬ (adjO (sOp a) (a (34 + i)) x ∧ sD (sOp a) (sGl a i) x = sD (sOp a) (sGl a i) (a (34 + i)) - 1))) → zW miX6_nextOf P 55 [zr 124, zi r, zi i, zi (a (34 + i)), zi nx, zi b] D' := by
        intro m
        induction m with
        | zero =>
          intro b nx hm b0 b1 hi
          refine sX6_nextOf_55 _ _ _ _ _ ?_
          simp only [tX6_nextOf_55, w_ic, w_lc, w_lds, w_ild, w_lld, w_ald, w_ist, w_lst, w_ast, w_iinc, w_iadd, w_isub, w_imul, w_idiv, w_irem, w_iand, w_ior, w_ixor, w_ishl, w_ishr, w_iushr, w_ineg, w_ladd, w_lsub, w_lmul, w_ldiv, w_lrem, w_lcmp, w_i2l, w_l2i, w_dup, w_pop, w_dup2, w_ieq, w_zeq, w_ine, w_zne, w_ilt, w_zlt, w_ige, w_zge, w_igt, w_zgt, w_ile, w_zle, w_cut, w_tsw, zsw, w_iret, w_zret, w_lret, w_vret, w_nret, w_getI, w_getJ, w_getR, w_putI, w_putZ, w_putJ, w_iald, w_zald, w_iast, w_zast, w_alen, w_sI, w_sJ, w_sV, w_vI, w_vJ, w_vV, w_tI, w_mmax, w_mmin, w_mabs, w_lmax, w_acopy, gL, sL, kl_i, kl_l, kl_r, kl_s, kl_m, qI_i, qJ_l, qA_r, qA_s, pI_i, pJ_l, pA_r, pS_s, pM_m, pV_v, c1_i, c1_r, c1_s, c1_m, cS_0, cS_i, cS_l, cS_r, cS_s, cS_m, pN, z_rc_r, zE1, zE2, zE3, true_and, and_true, Nat.zero_add, Nat.reduceAdd, Nat.reduceLeDiff, true_or, or_true, Int.reduceLE, Int.reduceLT, zcmp_l, zcmp_g, zcmp_e, zcmp_le, mo, mf0, mz0, mf1, mz1, mf2, mz2, mf6, mz6, mf10, mz10, mf11, mz11, mf12, mz12, mf13, mz13, mf14, mz14, mf16, mz16, mf17, mz17, mf18, mz18, mf19, mz19, mi3, mi7, mi8, mi9, mi15, mi4, mi5, mi20, ma125, mn125, ma126, mn126, ma127, mn127, ma128, mn128, ma129, mn129, ma130, mn130, ma131, mn131, ma132, mn132, ma133, mn133, ma134, mn134, ma135, mn135, ma136, mn136, ma137, mn137]
          refine ⟨fun _ => ?_, fun w => absurd (by omega) w⟩
          have : sNa a i = nx := by
            refine sNx_of (Or.inr ⟨hpos, ?_⟩)
            rcases hi with hi | ⟨p0, p1, p2, p3, p4⟩
            · obtain ⟨x, g0, g1, g2⟩ := sD_pre hpos
              exact absurd ⟨g1, g2⟩ (hi x g0 (by have := g0.1; omega))
            · exact ⟨p0, p2, p3, fun x g0 g1 g2 g3 => p4 x g0 (by have := g0.1; omega) g1 ⟨g2, g3⟩⟩
          have := hP D' hf
          rw [‹sNa a i = nx›] at this
          exact this
        | succ m ih =>
          intro b nx hm b0 b1 hi
          have hbC : inC b := ⟨by omega, b1⟩
          have skip : ¬ (adjO (sOp a) (a (34 + i)) b ∧ sD (sOp a) (sGl a i) b = sD (sOp a) (sGl a i) (a (34 + i)) - 1) → zR (b + -1) ∧ zW miX6_nextOf P 55 [zr 124, zi r, zi i, zi (a (34 + i)), zi nx, zi (b + -1)] D' := by
            intro hk
            refine ⟨⟨by omega, by omega⟩, ih (b + -1) nx (by omega) (by omega) (by omega) ?_⟩
            rcases hi with hi | ⟨p0, p1, p2, p3, p4⟩
            · refine Or.inl fun x g0 g1 => ?_
              by_cases e : x = b
              · rw [e]; exact hk
              · exact hi x g0 (by omega)
            · refine Or.inr ⟨p0, by omega, p2, p3, fun x g0 g1 g2 => ?_⟩
              by_cases e : x = b
              · rw [e]; exact hk
              · exact p4 x g0 (by omega) g2
          have eb : D' 129 b = zFar (sD (sOp a) (sGl a i) b) := (he b hbC).1
          have db0 := sD_le (sOp a) (sGl a i) b
          have db1 : sD (sOp a) (sGl a i) b < 20 := sD_lt hg hbC
          have hze := zFar_e db0 db1 (e := sD (sOp a) (sGl a i) (a (34 + i)) - 1) (by omega) (by omega)
          refine sX6_nextOf_55 _ _ _ _ _ ?_
          simp only [tX6_nextOf_55, w_ic, w_lc, w_lds, w_ild, w_lld, w_ald, w_ist, w_lst, w_ast, w_iinc, w_iadd, w_isub, w_imul, w_idiv, w_irem, w_iand, w_ior, w_ixor, w_ishl, w_ishr, w_iushr, w_ineg, w_ladd, w_lsub, w_lmul, w_ldiv, w_lrem, w_lcmp, w_i2l, w_l2i, w_dup, w_pop, w_dup2, w_ieq, w_zeq, w_ine, w_zne, w_ilt, w_zlt, w_ige, w_zge, w_igt, w_zgt, w_ile, w_zle, w_cut, w_tsw, zsw, w_iret, w_zret, w_lret, w_vret, w_nret, w_getI, w_getJ, w_getR, w_putI, w_putZ, w_putJ, w_iald, w_zald, w_iast, w_zast, w_alen, w_sI, w_sJ, w_sV, w_vI, w_vJ, w_vV, w_tI, w_mmax, w_mmin, w_mabs, w_lmax, w_acopy, gL, sL, kl_i, kl_l, kl_r, kl_s, kl_m, qI_i, qJ_l, qA_r, qA_s, pI_i, pJ_l, pA_r, pS_s, pM_m, pV_v, c1_i, c1_r, c1_s, c1_m, cS_0, cS_i, cS_l, cS_r, cS_s, cS_m, pN, z_rc_r, zE1, zE2, zE3, true_and, and_true, Nat.zero_add, Nat.reduceAdd, Nat.reduceLeDiff, true_or, or_true, Int.reduceLE, Int.reduceLT, zcmp_l, zcmp_g, zcmp_e, zcmp_le, mo, mf0, mz0, mf1, mz1, mf2, mz2, mf6, mz6, mf10, mz10, mf11, mz11, mf12, mz12, mf13, mz13, mf14, mz14, mf16, mz16, mf17, mz17, mf18, mz18, mf19, mz19, mi3, mi7, mi8, mi9, mi15, mi4, mi5, mi20, ma125, mn125, ma126, mn126, ma127, mn127, ma128, mn128, ma129, mn129, ma130, mn130, ma131, mn131, ma132, mn132, ma133, mn133, ma134, mn134, ma135, mn135, ma136, mn136, ma137, mn137]
          rw [eb, e1, e1', hz]
          refine ⟨fun w => absurd w (by omega), fun _ => ⟨by omega, by omega, at0, by omega, ⟨by omega, by omega⟩, fun q3 => skip fun w => q3 (hze.mpr w.2), fun q3 => ?_⟩⟩
          have q4 := hze.mp (Decidable.not_not.mp q3)
          refine m_leads hr hq' n0 hat hbC (fun ha => ⟨fun w => absurd w (by decide), fun _ => ⟨⟨by omega, by omega⟩, ?_⟩⟩) (fun ha => ⟨fun _ => skip fun w => ha w.1, fun w => absurd rfl w⟩)
          exact ih (b + -1) b (by omega) (by omega) (by omega) (Or.inr ⟨hbC, by omega, ha, q4, fun x g0 g1 g2 => by omega⟩)
      exact loop 20 19 _ rfl (by decide) (by decide) (Or.inl fun x g0 g1 => by have := g0.2; omega)
    · have hneg : sD (sOp a) (sGl a i) (a (34 + i)) = -1 := by
        have q3 := Decidable.not_not.mp q2
        unfold zFar at q3
        split at q3
        · assumption
        · omega
      have : sNa a i = a (34 + i) := sNx_of (Or.inl ⟨by omega, rfl⟩)
      have h2 := hP D' hf
      rw [this] at h2
      exact h2
  · have e : a (34 + i) = sGl a i := Decidable.not_not.mp q
    have : sNa a i = a (34 + i) := by
      unfold sNa
      rw [← e]
      exact sNx_goal hat
    have h2 := hP D yA.rfl
    rw [this] at h2
    exact h2
theorem bO_z {x : Int} (hx : 0 ≤ x) (hx2 : x < 1048576) : bO x 0 = x := by
  have := zB_or0 hx hx2 (k := 0) (by decide) (by decide)
  rw [show bL 0 0 = 0 by decide] at this
  exact this
/-- a minute in a region: what changes -/
def yP (r : Int) (D D' : Mem) : Prop := (∀ o, o ≠ 125 → o ≠ 129 → o ≠ 130 → o ≠ 131 → D' o = D o) ∧ ∀ j, j < r ∨ r + 54 ≤ j → D' 125 j = D 125 j
theorem yP.rfl {r : Int} {D : Mem} : yP r D D := ⟨fun _ _ _ _ _ => Eq.refl _, fun _ _ => Eq.refl _⟩
theorem yP.trans {r : Int} {D D1 D2 : Mem} (h : yP r D D1) (h2 : yP r D1 D2) : yP r D D2 := ⟨fun o p q s t => (h2.1 o p q s t).trans (h.1 o p q s t), fun j hj => (h2.2 j hj).trans (h.2 j hj)⟩
theorem yA.p {r : Int} {D D' : Mem} (h : yA D D') : yP r D D' := ⟨fun o _ q s _ => h o q s, fun j _ => by rw [h 125 (by decide) (by decide)]⟩
theorem m_passes {r M : Int} {a : Int → Int} {D : Mem} {P : Int → Mem → Prop} (hr : rOK r) (hq : yQ D r a) (hw : WA M a) (hM : M ≤ 30000) (hP : ∀ D', yP r D D' → yQ D' r (sPass a) → P (sCt a) D') : zC miX6_passes [zr 124, zi r] D P := by
  have hb := hr.b
  have n0 := hw.n0
  have n1 := hw.n1
  have n3 := hw.n3
  have loop2 : ∀ (m : Nat) (k : Int) (D1 : Mem), (a 1 - k).toNat = m → 0 ≤ k → k ≤ a 1 → yP r D D1 → (∀ j, 0 ≤ j → j < a 1 → D1 131 j = sNa a j) → (∀ j, 0 ≤ j → j < 54 → D1 125 (r + j) = if 34 ≤ j ∧ j < 34 + k then sNa a (j - 34) else a j) → zW miX6_passes P 64 [zr 124, zi r, zi (sCt a), zi k] D1 := by
    intro m
    induction m with
    | zero =>
      intro k D1 hm k0 k1 hf hn hv
      have e1 := hv 1 (by omega) (by omega)
      have e3 := hv 3 (by omega) (by omega)
      rw [if_neg (by omega)] at e1 e3
      have ek : k = a 1 := by omega
      refine sX6_passes_64 _ _ _ _ _ ?_
      simp only [tX6_passes_64, w_ic, w_lc, w_lds, w_ild, w_lld, w_ald, w_ist, w_lst, w_ast, w_iinc, w_iadd, w_isub, w_imul, w_idiv, w_irem, w_iand, w_ior, w_ixor, w_ishl, w_ishr, w_iushr, w_ineg, w_ladd, w_lsub, w_lmul, w_ldiv, w_lrem, w_lcmp, w_i2l, w_l2i, w_dup, w_pop, w_dup2, w_ieq, w_zeq, w_ine, w_zne, w_ilt, w_zlt, w_ige, w_zge, w_igt, w_zgt, w_ile, w_zle, w_cut, w_tsw, zsw, w_iret, w_zret, w_lret, w_vret, w_nret, w_getI, w_getJ, w_getR, w_putI, w_putZ, w_putJ, w_iald, w_zald, w_iast, w_zast, w_alen, w_sI, w_sJ, w_sV, w_vI, w_vJ, w_vV, w_tI, w_mmax, w_mmin, w_mabs, w_lmax, w_acopy, gL, sL, kl_i, kl_l, kl_r, kl_s, kl_m, qI_i, qJ_l, qA_r, qA_s, pI_i, pJ_l, pA_r, pS_s, pM_m, pV_v, c1_i, c1_r, c1_s, c1_m, cS_0, cS_i, cS_l, cS_r, cS_s, cS_m, pN, z_rc_r, zE1, zE2, zE3, true_and, and_true, Nat.zero_add, Nat.reduceAdd, Nat.reduceLeDiff, true_or, or_true, Int.reduceLE, Int.reduceLT, zcmp_l, zcmp_g, zcmp_e, zcmp_le, mo, mf0, mz0, mf1, mz1, mf2, mz2, mf6, mz6, mf10, mz10, mf11, mz11, mf12, mz12, mf13, mz13, mf14, mz14, mf16, mz16, mf17, mz17, mf18, mz18, mf19, mz19, mi3, mi7, mi8, mi9, mi15, mi4, mi5, mi20, ma125, mn125, ma126, mn126, ma127, mn127, ma128, mn128, ma129, mn129, ma130, mn130, ma131, mn131, ma132, mn132, ma133, mn133, ma134, mn134, ma135, mn135, ma136, mn136, ma137, mn137]
      rw [e1, e3]
      refine ⟨⟨by omega, by omega⟩, by omega, by omega, fun _ => ⟨⟨by omega, by omega⟩, by omega, by omega, ⟨by omega, by omega⟩, by omega, by omega, hP _ ?_ ?_⟩, fun w => absurd (by omega) w⟩
      · refine hf.trans ⟨fun o p _ _ _ => zU_ne p, fun j hj => zU_k (by omega)⟩
      · intro j j0 j1
        unfold sPass
        by_cases e : j = 3
        · rw [e, zU_s, if_neg (by omega), if_pos rfl]
        · rw [zU_k (by omega), hv j j0 j1, if_neg e, ek]
    | succ m ih =>
      intro k D1 hm k0 k1 hf hn hv
      have e1 := hv 1 (by omega) (by omega)
      rw [if_neg (by omega)] at e1
      refine sX6_passes_64 _ _ _ _ _ ?_
      simp only [tX6_passes_64, w_ic, w_lc, w_lds, w_ild, w_lld, w_ald, w_ist, w_lst, w_ast, w_iinc, w_iadd, w_isub, w_imul, w_idiv, w_irem, w_iand, w_ior, w_ixor, w_ishl, w_ishr, w_iushr, w_ineg, w_ladd, w_lsub, w_lmul, w_ldiv, w_lrem, w_lcmp, w_i2l, w_l2i, w_dup, w_pop, w_dup2, w_ieq, w_zeq, w_ine, w_zne, w_ilt, w_zlt, w_ige, w_zge, w_igt, w_zgt, w_ile, w_zle, w_cut, w_tsw, zsw, w_iret, w_zret, w_lret, w_vret, w_nret, w_getI, w_getJ, w_getR, w_putI, w_putZ, w_putJ, w_iald, w_zald, w_iast, w_zast, w_alen, w_sI, w_sJ, w_sV, w_vI, w_vJ, w_vV, w_tI, w_mmax, w_mmin, w_mabs, w_lmax, w_acopy, gL, sL, kl_i, kl_l, kl_r, kl_s, kl_m, qI_i, qJ_l, qA_r, qA_s, pI_i, pJ_l, pA_r, pS_s, pM_m, pV_v, c1_i, c1_r, c1_s, c1_m, cS_0, cS_i, cS_l, cS_r, cS_s, cS_m, pN, z_rc_r, zE1, zE2, zE3, true_and, and_true, Nat.zero_add, Nat.reduceAdd, Nat.reduceLeDiff, true_or, or_true, Int.reduceLE, Int.reduceLT, zcmp_l, zcmp_g, zcmp_e, zcmp_le, mo, mf0, mz0, mf1, mz1, mf2, mz2, mf6, mz6, mf10, mz10, mf11, mz11, mf12, mz12, mf13, mz13, mf14, mz14, mf16, mz16, mf17, mz17, mf18, mz18, mf19, mz19, mi3, mi7, mi8, mi9, mi15, mi4, mi5, mi20, ma125, mn125, ma126, mn126, ma127, mn127, ma128, mn128, ma129, mn129, ma130, mn130, ma131, mn131, ma132, mn132, ma133, mn133, ma134, mn134, ma135, mn135, ma136, mn136, ma137, mn137]
      rw [e1, hn k k0 (by omega)]
      refine ⟨⟨by omega, by omega⟩, by omega, by omega, fun w => absurd w (by omega), fun _ => ⟨⟨by omega, by omega⟩, ⟨by omega, by omega⟩, k0, by omega, by omega, by omega, ⟨by omega, by omega⟩, ?_⟩⟩
      refine ih (k + 1) _ (by omega) (by omega) (by omega) (hf.trans ⟨fun o p _ _ _ => zU_ne p, fun j hj => zU_k (by omega)⟩) (fun j j0 j1 => by rw [zU_o (by decide)]; exact hn j j0 j1) fun j j0 j1 => ?_
      by_cases e : j = 34 + k
      · rw [e, show r + (34 + k) = r + 34 + k by omega, zU_s, if_pos (by omega), show 34 + k - 34 = k by omega]
      · rw [zU_k (by omega), hv j j0 j1]
        by_cases g : 34 ≤ j ∧ j < 34 + k
        · rw [if_pos g, if_pos (by omega)]
        · rw [if_neg g, if_neg (by omega)]
  have loop1 : ∀ (m k : Nat) (D1 : Mem), (a 1).toNat - k = m → (k : Int) ≤ a 1 → yP r D D1 → (∀ j : Int, 0 ≤ j → j < k → D1 131 j = sNa a j) → yQ D1 r a → zW miX6_passes P 4 [zr 124, zi r, zi (zsum k (fun i => if sNa a i = a (34 + i) then 0 else 1)), zi k] D1 := by
    intro m
    induction m with
    | zero =>
      intro k D1 hm k1 hf hn hv
      refine sX6_passes_4 _ _ _ _ _ ?_
      simp only [tX6_passes_4, w_ic, w_lc, w_lds, w_ild, w_lld, w_ald, w_ist, w_lst, w_ast, w_iinc, w_iadd, w_isub, w_imul, w_idiv, w_irem, w_iand, w_ior, w_ixor, w_ishl, w_ishr, w_iushr, w_ineg, w_ladd, w_lsub, w_lmul, w_ldiv, w_lrem, w_lcmp, w_i2l, w_l2i, w_dup, w_pop, w_dup2, w_ieq, w_zeq, w_ine, w_zne, w_ilt, w_zlt, w_ige, w_zge, w_igt, w_zgt, w_ile, w_zle, w_cut, w_tsw, zsw, w_iret, w_zret, w_lret, w_vret, w_nret, w_getI, w_getJ, w_getR, w_putI, w_putZ, w_putJ, w_iald, w_zald, w_iast, w_zast, w_alen, w_sI, w_sJ, w_sV, w_vI, w_vJ, w_vV, w_tI, w_mmax, w_mmin, w_mabs, w_lmax, w_acopy, gL, sL, kl_i, kl_l, kl_r, kl_s, kl_m, qI_i, qJ_l, qA_r, qA_s, pI_i, pJ_l, pA_r, pS_s, pM_m, pV_v, c1_i, c1_r, c1_s, c1_m, cS_0, cS_i, cS_l, cS_r, cS_s, cS_m, pN, z_rc_r, zE1, zE2, zE3, true_and, and_true, Nat.zero_add, Nat.reduceAdd, Nat.reduceLeDiff, true_or, or_true, Int.reduceLE, Int.reduceLT, zcmp_l, zcmp_g, zcmp_e, zcmp_le, mo, mf0, mz0, mf1, mz1, mf2, mz2, mf6, mz6, mf10, mz10, mf11, mz11, mf12, mz12, mf13, mz13, mf14, mz14, mf16, mz16, mf17, mz17, mf18, mz18, mf19, mz19, mi3, mi7, mi8, mi9, mi15, mi4, mi5, mi20, ma125, mn125, ma126, mn126, ma127, mn127, ma128, mn128, ma129, mn129, ma130, mn130, ma131, mn131, ma132, mn132, ma133, mn133, ma134, mn134, ma135, mn135, ma136, mn136, ma137, mn137]
      rw [hv 1 (by omega) (by omega)]
      refine ⟨⟨by omega, by omega⟩, by omega, by omega, fun _ => ?_, fun w => absurd (by omega) w⟩
      have e : k = (a 1).toNat := by omega
      subst e
      exact loop2 _ 0 D1 rfl (by omega) (by omega) hf (fun j j0 j1 => hn j j0 (by omega)) fun j j0 j1 => by rw [if_neg (by omega)]; exact hv j j0 j1
    | succ m ih =>
      intro k D1 hm k1 hf hn hv
      have zb := zsum_b (f := fun i => if sNa a i = a (34 + i) then (0 : Int) else 1) (m := 1) k (fun j _ _ => by split <;> omega)
      refine sX6_passes_4 _ _ _ _ _ ?_
      simp only [tX6_passes_4, w_ic, w_lc, w_lds, w_ild, w_lld, w_ald, w_ist, w_lst, w_ast, w_iinc, w_iadd, w_isub, w_imul, w_idiv, w_irem, w_iand, w_ior, w_ixor, w_ishl, w_ishr, w_iushr, w_ineg, w_ladd, w_lsub, w_lmul, w_ldiv, w_lrem, w_lcmp, w_i2l, w_l2i, w_dup, w_pop, w_dup2, w_ieq, w_zeq, w_ine, w_zne, w_ilt, w_zlt, w_ige, w_zge, w_igt, w_zgt, w_ile, w_zle, w_cut, w_tsw, zsw, w_iret, w_zret, w_lret, w_vret, w_nret, w_getI, w_getJ, w_getR, w_putI, w_putZ, w_putJ, w_iald, w_zald, w_iast, w_zast, w_alen, w_sI, w_sJ, w_sV, w_vI, w_vJ, w_vV, w_tI, w_mmax, w_mmin, w_mabs, w_lmax, w_acopy, gL, sL, kl_i, kl_l, kl_r, kl_s, kl_m, qI_i, qJ_l, qA_r, qA_s, pI_i, pJ_l, pA_r, pS_s, pM_m, pV_v, c1_i, c1_r, c1_s, c1_m, cS_0, cS_i, cS_l, cS_r, cS_s, cS_m, pN, z_rc_r, zE1, zE2, zE3, true_and, and_true, Nat.zero_add, Nat.reduceAdd, Nat.reduceLeDiff, true_or, or_true, Int.reduceLE, Int.reduceLT, zcmp_l, zcmp_g, zcmp_e, zcmp_le, mo, mf0, mz0, mf1, mz1, mf2, mz2, mf6, mz6, mf10, mz10, mf11, mz11, mf12, mz12, mf13, mz13, mf14, mz14, mf16, mz16, mf17, mz17, mf18, mz18, mf19, mz19, mi3, mi7, mi8, mi9, mi15, mi4, mi5, mi20, ma125, mn125, ma126, mn126, ma127, mn127, ma128, mn128, ma129, mn129, ma130, mn130, ma131, mn131, ma132, mn132, ma133, mn133, ma134, mn134, ma135, mn135, ma136, mn136, ma137, mn137]
      rw [hv 1 (by omega) (by omega)]
      refine ⟨⟨by omega, by omega⟩, by omega, by omega, fun w => absurd w (by omega), fun _ => ?_⟩
      refine m_nextOf hr hv hw (by omega) (by omega) fun D2 hf2 => ?_
      have hq2 : yQ (zU D2 131 k (sNa a k)) r a := by
        unfold yQ
        rw [zU_ne (by decide)]
        exact hf2.q hv
      rw [zU_s, hq2.t 34 k (by omega) (by omega)]
      have next : ∀ x : Int, x = (if sNa a k = a (34 + k) then 0 else 1) → zR (zsum k (fun i => if sNa a i = a (34 + i) then 0 else 1) + x) ∧ zR ((k : Int) + 1) ∧ zW miX6_passes P 4 [zr 124, zi r, zi (zsum k (fun i => if sNa a i = a (34 + i) then 0 else 1) + x), zi ((k : Int) + 1)] (zU D2 131 k (sNa a k)) := by
        intro x hx
        have hx1 : x = 0 ∨ x = 1 := by rw [hx]; split <;> omega
        subst hx
        refine ⟨⟨by omega, by omega⟩, ⟨by omega, by omega⟩, ih (k + 1) _ (by omega) (by omega) (hf.trans (hf2.p.trans ⟨fun o _ _ _ p => zU_ne p, fun j hj => zU_o (by decide)⟩)) (fun j j0 j1 => ?_) hq2⟩
        by_cases e : j = k
        · rw [e, zU_s]
        · rw [zU_k e, hf2 131 (by decide) (by decide)]
          exact hn j j0 (by omega)
      refine ⟨by omega, by omega, by omega, by omega, ⟨by omega, by omega⟩, ⟨by omega, by omega⟩, by omega, by omega, fun q => next 0 (by rw [if_pos q]), fun q => next 1 (by rw [if_neg q])⟩
  refine e_X6_passes ?_
  simp only [tX6_passes_0, w_ic, w_lc, w_lds, w_ild, w_lld, w_ald, w_ist, w_lst, w_ast, w_iinc, w_iadd, w_isub, w_imul, w_idiv, w_irem, w_iand, w_ior, w_ixor, w_ishl, w_ishr, w_iushr, w_ineg, w_ladd, w_lsub, w_lmul, w_ldiv, w_lrem, w_lcmp, w_i2l, w_l2i, w_dup, w_pop, w_dup2, w_ieq, w_zeq, w_ine, w_zne, w_ilt, w_zlt, w_ige, w_zge, w_igt, w_zgt, w_ile, w_zle, w_cut, w_tsw, zsw, w_iret, w_zret, w_lret, w_vret, w_nret, w_getI, w_getJ, w_getR, w_putI, w_putZ, w_putJ, w_iald, w_zald, w_iast, w_zast, w_alen, w_sI, w_sJ, w_sV, w_vI, w_vJ, w_vV, w_tI, w_mmax, w_mmin, w_mabs, w_lmax, w_acopy, gL, sL, kl_i, kl_l, kl_r, kl_s, kl_m, qI_i, qJ_l, qA_r, qA_s, pI_i, pJ_l, pA_r, pS_s, pM_m, pV_v, c1_i, c1_r, c1_s, c1_m, cS_0, cS_i, cS_l, cS_r, cS_s, cS_m, pN, z_rc_r, zE1, zE2, zE3, true_and, and_true, Nat.zero_add, Nat.reduceAdd, Nat.reduceLeDiff, true_or, or_true, Int.reduceLE, Int.reduceLT, zcmp_l, zcmp_g, zcmp_e, zcmp_le, mo, mf0, mz0, mf1, mz1, mf2, mz2, mf6, mz6, mf10, mz10, mf11, mz11, mf12, mz12, mf13, mz13, mf14, mz14, mf16, mz16, mf17, mz17, mf18, mz18, mf19, mz19, mi3, mi7, mi8, mi9, mi15, mi4, mi5, mi20, ma125, mn125, ma126, mn126, ma127, mn127, ma128, mn128, ma129, mn129, ma130, mn130, ma131, mn131, ma132, mn132, ma133, mn133, ma134, mn134, ma135, mn135, ma136, mn136, ma137, mn137]
  exact loop1 _ 0 D rfl (by omega) yP.rfl (fun j j0 j1 => by omega) hq
theorem m_loudIn {r i M : Int} {a : Int → Int} {D : Mem} {P : Int → Mem → Prop} (hr : rOK r) (hq : yQ D r a) (hw : WA M a) (i0 : 0 ≤ i) (i1 : i < a 1) (hP : ∀ D', yA D D' → P (sLd a i) D') : zC miX6_loudIn [zr 124, zi r, zi i] D P := by
  have hb := hr.b
  have n1 := hw.n1
  have w := hw.2.2.1 i i0 i1
  have at0 := w.2.2.2.1.1
  have at1 := w.2.2.2.1.2
  refine e_X6_loudIn ?_
  simp only [tX6_loudIn_0, w_ic, w_lc, w_lds, w_ild, w_lld, w_ald, w_ist, w_lst, w_ast, w_iinc, w_iadd, w_isub, w_imul, w_idiv, w_irem, w_iand, w_ior, w_ixor, w_ishl, w_ishr, w_iushr, w_ineg, w_ladd, w_lsub, w_lmul, w_ldiv, w_lrem, w_lcmp, w_i2l, w_l2i, w_dup, w_pop, w_dup2, w_ieq, w_zeq, w_ine, w_zne, w_ilt, w_zlt, w_ige, w_zge, w_igt, w_zgt, w_ile, w_zle, w_cut, w_tsw, zsw, w_iret, w_zret, w_lret, w_vret, w_nret, w_getI, w_getJ, w_getR, w_putI, w_putZ, w_putJ, w_iald, w_zald, w_iast, w_zast, w_alen, w_sI, w_sJ, w_sV, w_vI, w_vJ, w_vV, w_tI, w_mmax, w_mmin, w_mabs, w_lmax, w_acopy, gL, sL, kl_i, kl_l, kl_r, kl_s, kl_m, qI_i, qJ_l, qA_r, qA_s, pI_i, pJ_l, pA_r, pS_s, pM_m, pV_v, c1_i, c1_r, c1_s, c1_m, cS_0, cS_i, cS_l, cS_r, cS_s, cS_m, pN, z_rc_r, zE1, zE2, zE3, true_and, and_true, Nat.zero_add, Nat.reduceAdd, Nat.reduceLeDiff, true_or, or_true, Int.reduceLE, Int.reduceLT, zcmp_l, zcmp_g, zcmp_e, zcmp_le, mo, mf0, mz0, mf1, mz1, mf2, mz2, mf6, mz6, mf10, mz10, mf11, mz11, mf12, mz12, mf13, mz13, mf14, mz14, mf16, mz16, mf17, mz17, mf18, mz18, mf19, mz19, mi3, mi7, mi8, mi9, mi15, mi4, mi5, mi20, ma125, mn125, ma126, mn126, ma127, mn127, ma128, mn128, ma129, mn129, ma130, mn130, ma131, mn131, ma132, mn132, ma133, mn133, ma134, mn134, ma135, mn135, ma136, mn136, ma137, mn137]
  refine m_nextOf hr hq hw i0 i1 fun D' hf => ?_
  have hq' := hf.q hq
  have hP' := hP D' hf
  unfold sLd at hP'
  rw [hq'.t 34 i (by omega) (by omega), hq'.t 16 i (by omega) (by omega), hq' 3 (by omega) (by omega)]
  refine ⟨⟨by omega, by omega⟩, ⟨by omega, by omega⟩, by omega, by omega, fun q => ⟨⟨by omega, by omega⟩, ⟨by omega, by omega⟩, by omega, by omega, ⟨by omega, by omega⟩, ⟨by omega, by omega⟩, by omega, by omega, by omega, ⟨by omega, by omega⟩, by omega, by omega, ?_⟩, fun q => ?_⟩
  · rw [if_neg q] at hP'
    exact m_loudOf w.1.1 w.1.2 (by omega) (by omega) hw.n3.1 hP'
  · rw [if_pos (Decidable.not_not.mp q)] at hP'
    exact hP'
theorem sLd_b {M : Int} {a : Int → Int} {i : Int} (hw : WA M a) (i0 : 0 ≤ i) (i1 : i < a 1) : 0 ≤ sLd a i ∧ sLd a i ≤ 10 := by
  have w := (hw.2.2.1 i i0 i1).2.2.2.1
  have := w.1
  have := w.2
  unfold sLd
  split
  · omega
  · exact zLo_b (by omega) (by omega)
theorem m_hearsIn {r k i M : Int} {a : Int → Int} {D : Mem} {P : Int → Mem → Prop} (hr : rOK r) (hq : yQ D r a) (hw : WA M a) (k0 : 0 ≤ k) (k1 : k < a 2) (i0 : 0 ≤ i) (i1 : i < a 1) (h1 : ∀ D', yA D D' → sHr a k i = 1 → P 1 D') (h0 : ∀ D', yA D D' → sHr a k i = 0 → P 0 D') : zC miX6_hearsIn [zr 124, zi r, zi k, zi i] D P := by
  have hb := hr.b
  have n1 := hw.n1
  have n2 := hw.n2
  have w := hw.2.2.1 i i0 i1
  have v := hw.2.2.2.1 k k0 k1
  have at0 := w.2.2.2.1.1
  have at1 := w.2.2.2.1.2
  have lb := sLd_b hw i0 i1
  refine e_X6_hearsIn ?_
  simp only [tX6_hearsIn_0, w_ic, w_lc, w_lds, w_ild, w_lld, w_ald, w_ist, w_lst, w_ast, w_iinc, w_iadd, w_isub, w_imul, w_idiv, w_irem, w_iand, w_ior, w_ixor, w_ishl, w_ishr, w_iushr, w_ineg, w_ladd, w_lsub, w_lmul, w_ldiv, w_lrem, w_lcmp, w_i2l, w_l2i, w_dup, w_pop, w_dup2, w_ieq, w_zeq, w_ine, w_zne, w_ilt, w_zlt, w_ige, w_zge, w_igt, w_zgt, w_ile, w_zle, w_cut, w_tsw, zsw, w_iret, w_zret, w_lret, w_vret, w_nret, w_getI, w_getJ, w_getR, w_putI, w_putZ, w_putJ, w_iald, w_zald, w_iast, w_zast, w_alen, w_sI, w_sJ, w_sV, w_vI, w_vJ, w_vV, w_tI, w_mmax, w_mmin, w_mabs, w_lmax, w_acopy, gL, sL, kl_i, kl_l, kl_r, kl_s, kl_m, qI_i, qJ_l, qA_r, qA_s, pI_i, pJ_l, pA_r, pS_s, pM_m, pV_v, c1_i, c1_r, c1_s, c1_m, cS_0, cS_i, cS_l, cS_r, cS_s, cS_m, pN, z_rc_r, zE1, zE2, zE3, true_and, and_true, Nat.zero_add, Nat.reduceAdd, Nat.reduceLeDiff, true_or, or_true, Int.reduceLE, Int.reduceLT, zcmp_l, zcmp_g, zcmp_e, zcmp_le, mo, mf0, mz0, mf1, mz1, mf2, mz2, mf6, mz6, mf10, mz10, mf11, mz11, mf12, mz12, mf13, mz13, mf14, mz14, mf16, mz16, mf17, mz17, mf18, mz18, mf19, mz19, mi3, mi7, mi8, mi9, mi15, mi4, mi5, mi20, ma125, mn125, ma126, mn126, ma127, mn127, ma128, mn128, ma129, mn129, ma130, mn130, ma131, mn131, ma132, mn132, ma133, mn133, ma134, mn134, ma135, mn135, ma136, mn136, ma137, mn137]
  rw [hq.t 34 i (by omega) (by omega)]
  refine ⟨⟨by omega, by omega⟩, ⟨by omega, by omega⟩, by omega, by omega, ?_⟩
  refine m_nextOf hr hq hw i0 i1 fun D1 hf => ?_
  have hq1 := hf.q hq
  refine ⟨fun q => ?_, fun q => ?_⟩
  · exact h0 D1 hf (by unfold sHr; rw [if_pos q])
  · rw [hq1.t 46 k (by omega) (by omega)]
    refine ⟨⟨by omega, by omega⟩, ⟨by omega, by omega⟩, by omega, by omega, ?_⟩
    refine m_loudIn hr hq1 hw i0 i1 fun D2 hf2 => ?_
    have hq2 := hf2.q hq1
    rw [hq2.t 50 k (by omega) (by omega)]
    refine ⟨⟨by omega, by omega⟩, ⟨by omega, by omega⟩, by omega, by omega, ?_⟩
    have ab := zAp_b v.2 w.2.2.2.1
    refine m_apart v.2 w.2.2.2.1 ?_
    refine m_heardOf v.1.1 v.1.2 (by omega) (by omega) (by omega) (by omega) ?_
    have e : sLd a i = zLo (a (16 + i)) (a (34 + i) / 4) (a 3) := by
      unfold sLd
      rw [if_neg q]
    rw [e]
    refine ⟨fun g => h0 D2 (hf.trans hf2) ?_, fun g => h1 D2 (hf.trans hf2) ?_⟩
    · unfold sHr
      rw [if_neg q, if_neg (by omega)]
    · unfold sHr
      rw [if_neg q, if_pos (by omega)]
theorem m_heardBy {r k M : Int} {a : Int → Int} {D : Mem} {P : Int → Mem → Prop} (hr : rOK r) (hq : yQ D r a) (hw : WA M a) (k0 : 0 ≤ k) (k1 : k < a 2) (hP : ∀ D', yA D D' → P (zbits (a 1).toNat (sHr a k)) D') : zC miX6_heardBy [zr 124, zi r, zi k] D P := by
  have hb := hr.b
  have n1 := hw.n1
  have loop : ∀ (m : Nat) (i : Int) (D1 : Mem), (a 1 - i).toNat = m → 0 ≤ i → i ≤ a 1 → yA D D1 → zW miX6_heardBy P 5 [zr 124, zi r, zi k, zi (zbits i.toNat (sHr a k)), zi i] D1 := by
    intro m
    induction m with
    | zero =>
      intro i D1 hm i0 i1 hf
      refine sX6_heardBy_5 _ _ _ _ _ ?_
      simp only [tX6_heardBy_5, w_ic, w_lc, w_lds, w_ild, w_lld, w_ald, w_ist, w_lst, w_ast, w_iinc, w_iadd, w_isub, w_imul, w_idiv, w_irem, w_iand, w_ior, w_ixor, w_ishl, w_ishr, w_iushr, w_ineg, w_ladd, w_lsub, w_lmul, w_ldiv, w_lrem, w_lcmp, w_i2l, w_l2i, w_dup, w_pop, w_dup2, w_ieq, w_zeq, w_ine, w_zne, w_ilt, w_zlt, w_ige, w_zge, w_igt, w_zgt, w_ile, w_zle, w_cut, w_tsw, zsw, w_iret, w_zret, w_lret, w_vret, w_nret, w_getI, w_getJ, w_getR, w_putI, w_putZ, w_putJ, w_iald, w_zald, w_iast, w_zast, w_alen, w_sI, w_sJ, w_sV, w_vI, w_vJ, w_vV, w_tI, w_mmax, w_mmin, w_mabs, w_lmax, w_acopy, gL, sL, kl_i, kl_l, kl_r, kl_s, kl_m, qI_i, qJ_l, qA_r, qA_s, pI_i, pJ_l, pA_r, pS_s, pM_m, pV_v, c1_i, c1_r, c1_s, c1_m, cS_0, cS_i, cS_l, cS_r, cS_s, cS_m, pN, z_rc_r, zE1, zE2, zE3, true_and, and_true, Nat.zero_add, Nat.reduceAdd, Nat.reduceLeDiff, true_or, or_true, Int.reduceLE, Int.reduceLT, zcmp_l, zcmp_g, zcmp_e, zcmp_le, mo, mf0, mz0, mf1, mz1, mf2, mz2, mf6, mz6, mf10, mz10, mf11, mz11, mf12, mz12, mf13, mz13, mf14, mz14, mf16, mz16, mf17, mz17, mf18, mz18, mf19, mz19, mi3, mi7, mi8, mi9, mi15, mi4, mi5, mi20, ma125, mn125, ma126, mn126, ma127, mn127, ma128, mn128, ma129, mn129, ma130, mn130, ma131, mn131, ma132, mn132, ma133, mn133, ma134, mn134, ma135, mn135, ma136, mn136, ma137, mn137]
      rw [hf.q hq 1 (by omega) (by omega)]
      refine ⟨⟨by omega, by omega⟩, by omega, by omega, fun _ => ?_, fun w => absurd (by omega) w⟩
      rw [show i = a 1 by omega]
      exact hP D1 hf
    | succ m ih =>
      intro i D1 hm i0 i1 hf
      have zb := zbits_b (f := sHr a k) i.toNat
      have nx := fun D2 h => ih (i + 1) D2 (by omega) (by omega) (by omega) h
      rw [zbits_s i0] at nx
      refine sX6_heardBy_5 _ _ _ _ _ ?_
      simp only [tX6_heardBy_5, w_ic, w_lc, w_lds, w_ild, w_lld, w_ald, w_ist, w_lst, w_ast, w_iinc, w_iadd, w_isub, w_imul, w_idiv, w_irem, w_iand, w_ior, w_ixor, w_ishl, w_ishr, w_iushr, w_ineg, w_ladd, w_lsub, w_lmul, w_ldiv, w_lrem, w_lcmp, w_i2l, w_l2i, w_dup, w_pop, w_dup2, w_ieq, w_zeq, w_ine, w_zne, w_ilt, w_zlt, w_ige, w_zge, w_igt, w_zgt, w_ile, w_zle, w_cut, w_tsw, zsw, w_iret, w_zret, w_lret, w_vret, w_nret, w_getI, w_getJ, w_getR, w_putI, w_putZ, w_putJ, w_iald, w_zald, w_iast, w_zast, w_alen, w_sI, w_sJ, w_sV, w_vI, w_vJ, w_vV, w_tI, w_mmax, w_mmin, w_mabs, w_lmax, w_acopy, gL, sL, kl_i, kl_l, kl_r, kl_s, kl_m, qI_i, qJ_l, qA_r, qA_s, pI_i, pJ_l, pA_r, pS_s, pM_m, pV_v, c1_i, c1_r, c1_s, c1_m, cS_0, cS_i, cS_l, cS_r, cS_s, cS_m, pN, z_rc_r, zE1, zE2, zE3, true_and, and_true, Nat.zero_add, Nat.reduceAdd, Nat.reduceLeDiff, true_or, or_true, Int.reduceLE, Int.reduceLT, zcmp_l, zcmp_g, zcmp_e, zcmp_le, mo, mf0, mz0, mf1, mz1, mf2, mz2, mf6, mz6, mf10, mz10, mf11, mz11, mf12, mz12, mf13, mz13, mf14, mz14, mf16, mz16, mf17, mz17, mf18, mz18, mf19, mz19, mi3, mi7, mi8, mi9, mi15, mi4, mi5, mi20, ma125, mn125, ma126, mn126, ma127, mn127, ma128, mn128, ma129, mn129, ma130, mn130, ma131, mn131, ma132, mn132, ma133, mn133, ma134, mn134, ma135, mn135, ma136, mn136, ma137, mn137]
      rw [hf.q hq 1 (by omega) (by omega)]
      refine ⟨⟨by omega, by omega⟩, by omega, by omega, fun w => absurd w (by omega), fun _ => ?_⟩
      have hlt : zbits i.toNat (sHr a k) < 1048576 := by
        have e : (2 : Int) ^ i.toNat < 1048576 := (by decide : ∀ n : Nat, n < 7 → (2 : Int) ^ n < 1048576) i.toNat (by omega)
        omega
      refine m_hearsIn hr (hf.q hq) hw k0 k1 i0 (by omega) (fun D2 hf2 e => ⟨fun w => absurd w (by decide), fun _ => ⟨⟨by omega, by omega⟩, ?_⟩⟩) (fun D2 hf2 e => ⟨fun _ => ⟨⟨by omega, by omega⟩, ?_⟩, fun w => absurd rfl w⟩)
      · have := nx D2 (hf.trans hf2)
        rw [e, if_neg (by decide), ← bO_add i0 (by omega) zb.1 zb.2] at this
        exact this
      · have := nx D2 (hf.trans hf2)
        rw [e, if_pos rfl, Int.add_zero] at this
        rw [bO_z zb.1 hlt]
        exact this
  refine e_X6_heardBy ?_
  simp only [tX6_heardBy_0, w_ic, w_lc, w_lds, w_ild, w_lld, w_ald, w_ist, w_lst, w_ast, w_iinc, w_iadd, w_isub, w_imul, w_idiv, w_irem, w_iand, w_ior, w_ixor, w_ishl, w_ishr, w_iushr, w_ineg, w_ladd, w_lsub, w_lmul, w_ldiv, w_lrem, w_lcmp, w_i2l, w_l2i, w_dup, w_pop, w_dup2, w_ieq, w_zeq, w_ine, w_zne, w_ilt, w_zlt, w_ige, w_zge, w_igt, w_zgt, w_ile, w_zle, w_cut, w_tsw, zsw, w_iret, w_zret, w_lret, w_vret, w_nret, w_getI, w_getJ, w_getR, w_putI, w_putZ, w_putJ, w_iald, w_zald, w_iast, w_zast, w_alen, w_sI, w_sJ, w_sV, w_vI, w_vJ, w_vV, w_tI, w_mmax, w_mmin, w_mabs, w_lmax, w_acopy, gL, sL, kl_i, kl_l, kl_r, kl_s, kl_m, qI_i, qJ_l, qA_r, qA_s, pI_i, pJ_l, pA_r, pS_s, pM_m, pV_v, c1_i, c1_r, c1_s, c1_m, cS_0, cS_i, cS_l, cS_r, cS_s, cS_m, pN, z_rc_r, zE1, zE2, zE3, true_and, and_true, Nat.zero_add, Nat.reduceAdd, Nat.reduceLeDiff, true_or, or_true, Int.reduceLE, Int.reduceLT, zcmp_l, zcmp_g, zcmp_e, zcmp_le, mo, mf0, mz0, mf1, mz1, mf2, mz2, mf6, mz6, mf10, mz10, mf11, mz11, mf12, mz12, mf13, mz13, mf14, mz14, mf16, mz16, mf17, mz17, mf18, mz18, mf19, mz19, mi3, mi7, mi8, mi9, mi15, mi4, mi5, mi20, ma125, mn125, ma126, mn126, ma127, mn127, ma128, mn128, ma129, mn129, ma130, mn130, ma131, mn131, ma132, mn132, ma133, mn133, ma134, mn134, ma135, mn135, ma136, mn136, ma137, mn137]
  exact loop _ 0 D rfl (by omega) n1.1 yA.rfl
