/-! ===== 26: a Back passes minutes, traces, counts ===== -/
theorem zsum_s {f : Int → Int} {i : Int} (h : 0 ≤ i) : zsum (i + 1).toNat f = zsum i.toNat f + f i := by
  rw [show (i + 1).toNat = i.toNat + 1 by omega]
  show zsum i.toNat f + f (i.toNat : Int) = _
  rw [Int.toNat_of_nonneg h]
theorem zOP.fr {D D' : Mem} {b : Nat} {a : Int → Int} (h : zOP D b a) (e : D' (b + 22) = D (b + 22)) : zOP D' b a := by
  unfold zOP
  rw [e]
  exact h
theorem zOP.eq {D : Mem} {b : Nat} {a a' : Int → Int} (h : zOP D b a) (e : sOp a' = sOp a) : zOP D b a' := by
  unfold zOP
  rw [e]
  exact h
theorem sMid_op {a : Int → Int} {i : Int} (h0 : a 0 ≤ 6) (hi : i ≤ 6) : sOp (sMid a i) = sOp a := sOp_eq (sMid_n hi (by omega)) (fun j _ j1 => sMid_n hi (by omega))
theorem sMid_gl {a : Int → Int} {i k : Int} (hi : i ≤ 6) (k0 : 0 ≤ k) (k1 : k < 6) : sGl (sMid a i) k = sGl a k := by
  unfold sGl
  rw [sMid_n hi (by omega), sMid_n hi (by omega), sMid_n hi (by omega)]
theorem sMid_0 {a : Int → Int} : sMid a 0 = a := by
  funext j
  unfold sMid
  rw [if_neg (by omega)]
theorem sMid_end {a : Int → Int} (h1 : a 1 ≤ 6) : zA (sMid a (a 1)) 3 (a 3 + 1) = sPass a := by
  funext j
  simp only [zA, sMid, sPass]
  repeat' split
  all_goals first | rfl | (exfalso; omega)
theorem sCs_b {M : Int} {a : Int → Int} (h : WA M a) : ∀ n : Nat, 0 ≤ sCs n a ∧ sCs n a ≤ 6 * n
  | 0 => by simp [sCs]
  | n + 1 => by
    have ih := sCs_b h n
    have h1 := h.n1
    have e1 : sPs n a 1 = a 1 := sPs_n (by omega) h1.2 (by omega) n
    have hb : 0 ≤ sCt (sPs n a) ∧ sCt (sPs n a) ≤ ((sPs n a 1).toNat : Int) * 1 := zsum_b _ (fun k _ _ => by split <;> omega)
    show 0 ≤ sCs n a + sCt (sPs n a) ∧ sCs n a + sCt (sPs n a) ≤ _
    omega
theorem c_pass {M : Int} {b : Nat} {a : Int → Int} {n : Int} {D : Mem} {P : Int → Mem → Prop} (hb : zBk b) (h : BK M D b a) (hM : 0 ≤ M) (hM2 : M ≤ 1000000) (n1 : n ≤ 99) (hP : ∀ D', Fr b (b + 27) D D' → BK (M + n.toNat) D' b (sPs n.toNat a) → P (sCs n.toNat a) D') : zC miX0_pass [zr b, zi n] D P := by
  have w := h.2.2.1
  have c0 := w.n0
  have c1 := w.n1
  have outer : ∀ (r m : Nat) (D2 : Mem) (v4 v5 v6 : AV), n.toNat - m = r → m ≤ n.toNat → Fr b (b + 27) D D2 → BK (M + m) D2 b (sPs m a) → zOP D2 b a → zW miX0_pass P 8 [zr b, zi n, zi (sCs m a), zi m, v4, v5, v6] D2 := by
    intro r
    induction r with
    | zero =>
      intro m D2 v4 v5 v6 hr hm q1 q2 q3
      refine sX0_pass_8 _ _ _ _ _ ?_
      simp only [tX0_pass_8, w_ic, w_lc, w_lds, w_ild, w_lld, w_ald, w_ist, w_lst, w_ast, w_iinc, w_iadd, w_isub, w_imul, w_idiv, w_irem, w_iand, w_ior, w_ixor, w_ishl, w_ishr, w_iushr, w_ineg, w_ladd, w_lsub, w_lmul, w_ldiv, w_lrem, w_lcmp, w_i2l, w_l2i, w_dup, w_pop, w_dup2, w_ieq, w_zeq, w_ine, w_zne, w_ilt, w_zlt, w_ige, w_zge, w_igt, w_zgt, w_ile, w_zle, w_cut, w_tsw, zsw, w_iret, w_zret, w_lret, w_vret, w_nret, w_getI, w_getJ, w_getR, w_putI, w_putZ, w_putJ, w_iald, w_zald, w_iast, w_zast, w_alen, w_sI, w_sJ, w_sV, w_vI, w_vJ, w_vV, w_tI, w_mmax, w_mmin, w_mabs, w_lmax, w_acopy, gL, sL, kl_i, kl_l, kl_r, kl_s, kl_m, qI_i, qJ_l, qA_r, qA_s, pI_i, pJ_l, pA_r, pS_s, pM_m, pV_v, c1_i, c1_r, c1_s, c1_m, cS_0, cS_i, cS_l, cS_r, cS_s, cS_m, pN, z_rc_r, zE1, zE2, zE3, true_and, and_true, Nat.zero_add, Nat.reduceAdd, Nat.reduceLeDiff, true_or, or_true, hb.o]
      have e : m = n.toNat := by omega
      rw [e] at q2 ⊢
      exact ⟨fun _ => hP D2 q1 q2, fun q => absurd (by omega) q⟩
    | succ r ih =>
      intro m D2 v4 v5 v6 hr hm q1 q2 q3
      have sb := sCs_b w m
      have e1 : sPs m a 1 = a 1 := sPs_n (by omega) c1.2 (by omega) m
      have e0 : sPs m a 0 = a 0 := sPs_n (by omega) c1.2 (by omega) m
      have e3 : sPs m a 3 = a 3 + m := sPs_3 m
      have eop : sOp (sPs m a) = sOp a := sPs_op c0.2 c1.2 m
      refine sX0_pass_8 _ _ _ _ _ ?_
      simp only [tX0_pass_8, w_ic, w_lc, w_lds, w_ild, w_lld, w_ald, w_ist, w_lst, w_ast, w_iinc, w_iadd, w_isub, w_imul, w_idiv, w_irem, w_iand, w_ior, w_ixor, w_ishl, w_ishr, w_iushr, w_ineg, w_ladd, w_lsub, w_lmul, w_ldiv, w_lrem, w_lcmp, w_i2l, w_l2i, w_dup, w_pop, w_dup2, w_ieq, w_zeq, w_ine, w_zne, w_ilt, w_zlt, w_ige, w_zge, w_igt, w_zgt, w_ile, w_zle, w_cut, w_tsw, zsw, w_iret, w_zret, w_lret, w_vret, w_nret, w_getI, w_getJ, w_getR, w_putI, w_putZ, w_putJ, w_iald, w_zald, w_iast, w_zast, w_alen, w_sI, w_sJ, w_sV, w_vI, w_vJ, w_vV, w_tI, w_mmax, w_mmin, w_mabs, w_lmax, w_acopy, gL, sL, kl_i, kl_l, kl_r, kl_s, kl_m, qI_i, qJ_l, qA_r, qA_s, pI_i, pJ_l, pA_r, pS_s, pM_m, pV_v, c1_i, c1_r, c1_s, c1_m, cS_0, cS_i, cS_l, cS_r, cS_s, cS_m, pN, z_rc_r, zE1, zE2, zE3, true_and, and_true, Nat.zero_add, Nat.reduceAdd, Nat.reduceLeDiff, true_or, or_true, hb.o]
      refine ⟨fun q => absurd q (by omega), fun _ => ?_⟩
      have inner : ∀ (s : Nat) (i : Int) (D3 : Mem) (v5 v6 : AV), (a 1 - i).toNat = s → 0 ≤ i → i ≤ a 1 → Fr b (b + 27) D D3 → BK (M + m) D3 b (sMid (sPs m a) i) → zOP D3 b (sMid (sPs m a) i) → zW miX0_pass P 16 [zr b, zi n, zi (sCs m a + zsum i.toNat (fun i => if sNa (sPs m a) i = sPs m a (34 + i) then 0 else 1)), zi m, zi i, v5, v6] D3 := by
        intro s
        induction s with
        | zero =>
          intro i D3 v5 v6 hs i0 i1 p1 p2 p3
          have ei : i = a 1 := by omega
          have f1 : sMid (sPs m a) i 1 = a 1 := by rw [sMid_n (by omega) (by omega)]; exact e1
          have f3 : sMid (sPs m a) i 3 = a 3 + m := by rw [sMid_n (by omega) (by omega)]; exact e3
          refine sX0_pass_16 _ _ _ _ _ ?_
          simp only [tX0_pass_16, w_ic, w_lc, w_lds, w_ild, w_lld, w_ald, w_ist, w_lst, w_ast, w_iinc, w_iadd, w_isub, w_imul, w_idiv, w_irem, w_iand, w_ior, w_ixor, w_ishl, w_ishr, w_iushr, w_ineg, w_ladd, w_lsub, w_lmul, w_ldiv, w_lrem, w_lcmp, w_i2l, w_l2i, w_dup, w_pop, w_dup2, w_ieq, w_zeq, w_ine, w_zne, w_ilt, w_zlt, w_ige, w_zge, w_igt, w_zgt, w_ile, w_zle, w_cut, w_tsw, zsw, w_iret, w_zret, w_lret, w_vret, w_nret, w_getI, w_getJ, w_getR, w_putI, w_putZ, w_putJ, w_iald, w_zald, w_iast, w_zast, w_alen, w_sI, w_sJ, w_sV, w_vI, w_vJ, w_vV, w_tI, w_mmax, w_mmin, w_mabs, w_lmax, w_acopy, gL, sL, kl_i, kl_l, kl_r, kl_s, kl_m, qI_i, qJ_l, qA_r, qA_s, pI_i, pJ_l, pA_r, pS_s, pM_m, pV_v, c1_i, c1_r, c1_s, c1_m, cS_0, cS_i, cS_l, cS_r, cS_s, cS_m, pN, z_rc_r, zE1, zE2, zE3, true_and, and_true, Nat.zero_add, Nat.reduceAdd, Nat.reduceLeDiff, true_or, or_true, hb.o, hb.m, hb.fr1, hb.zf1, hb.r1.o, hb.fr7, hb.zf7, hb.wo]
          refine c_gsize hb p2 ?_
          rw [f1, p2.2.1.m, f3]
          have w3 := w.n3
          refine ⟨fun _ => ⟨⟨by omega, by omega⟩, ⟨by omega, by omega⟩, ?_⟩, fun q => absurd (by omega) q⟩
          have m1 := p2.mset (M' := M + m + 1) (x := a 3 + m + 1) (sMin_wa p2.2.2.1 ⟨by omega, by omega⟩ (by omega))
          have ee : zA (sMid (sPs m a) i) 3 (a 3 + m + 1) = sPs (m + 1) a := by
            rw [ei, ← e1, ← e3]
            exact sMid_end (by omega)
          rw [ee] at m1
          have es : sCs m a + zsum i.toNat (fun i => if sNa (sPs m a) i = sPs m a (34 + i) then 0 else 1) = sCs (m + 1) a := by
            rw [ei]
            show _ = sCs m a + sCt (sPs m a)
            unfold sCt
            rw [e1]
          rw [es]
          refine ih (m + 1) _ _ _ _ (by omega) (by omega) (p1.trans (Fr.up (by omega) (by omega))) ?_ ?_
          · rw [show M + ((m + 1 : Nat) : Int) = M + m + 1 by omega]
            exact m1
          · exact (p3.eq (by rw [sMid_op (by omega) (by omega), eop])).fr (zU_ne (by omega))
        | succ s ihs =>
          intro i D3 v5 v6 hs i0 i1 p1 p2 p3
          have f1 : sMid (sPs m a) i 1 = a 1 := by rw [sMid_n (by omega) (by omega)]; exact e1
          have f34 : sMid (sPs m a) i (34 + i) = sPs m a (34 + i) := sMid_n (by omega) (by omega)
          have fop : sOp (sMid (sPs m a) i) = sOp (sPs m a) := sMid_op (by omega) (by omega)
          have fgl : sGl (sMid (sPs m a) i) i = sGl (sPs m a) i := sMid_gl (by omega) i0 (by omega)
          have hat : inC (sPs m a (34 + i)) := by rw [← f34]; exact (p2.2.2.1.w1.2 i i0 (by omega)).2.2.2.1
          have hgl := p2.2.2.1.gl (i := i) i0 (by omega)
          have zb : 0 ≤ zsum i.toNat (fun i => if sNa (sPs m a) i = sPs m a (34 + i) then (0 : Int) else 1) ∧ zsum i.toNat (fun i => if sNa (sPs m a) i = sPs m a (34 + i) then (0 : Int) else 1) ≤ (i.toNat : Int) * 1 := zsum_b _ (fun k _ _ => by split <;> omega)
          have zs := zsum_s (f := fun i => if sNa (sPs m a) i = sPs m a (34 + i) then (0 : Int) else 1) i0
          have ha0 := hat.1
          have ha1 := hat.2
          refine sX0_pass_16 _ _ _ _ _ ?_
          simp only [tX0_pass_16, w_ic, w_lc, w_lds, w_ild, w_lld, w_ald, w_ist, w_lst, w_ast, w_iinc, w_iadd, w_isub, w_imul, w_idiv, w_irem, w_iand, w_ior, w_ixor, w_ishl, w_ishr, w_iushr, w_ineg, w_ladd, w_lsub, w_lmul, w_ldiv, w_lrem, w_lcmp, w_i2l, w_l2i, w_dup, w_pop, w_dup2, w_ieq, w_zeq, w_ine, w_zne, w_ilt, w_zlt, w_ige, w_zge, w_igt, w_zgt, w_ile, w_zle, w_cut, w_tsw, zsw, w_iret, w_zret, w_lret, w_vret, w_nret, w_getI, w_getJ, w_getR, w_putI, w_putZ, w_putJ, w_iald, w_zald, w_iast, w_zast, w_alen, w_sI, w_sJ, w_sV, w_vI, w_vJ, w_vV, w_tI, w_mmax, w_mmin, w_mabs, w_lmax, w_acopy, gL, sL, kl_i, kl_l, kl_r, kl_s, kl_m, qI_i, qJ_l, qA_r, qA_s, pI_i, pJ_l, pA_r, pS_s, pM_m, pV_v, c1_i, c1_r, c1_s, c1_m, cS_0, cS_i, cS_l, cS_r, cS_s, cS_m, pN, z_rc_r, zE1, zE2, zE3, true_and, and_true, Nat.zero_add, Nat.reduceAdd, Nat.reduceLeDiff, true_or, or_true, hb.o, hb.m, hb.fr1, hb.zf1, hb.r1.o, hb.fr7, hb.zf7, hb.wo]
          refine c_gsize hb p2 ?_
          rw [f1]
          refine ⟨fun q => absurd q (by omega), fun _ => ?_⟩
          refine c_gget hb p2 i0 (by omega) (by omega) (by omega) ?_
          rw [show 16 + 6 * 3 + i = 34 + i by omega, f34]
          refine c_goalOf hb p2 i0 (by omega) ?_
          refine c_gnext hb p2 p3 hat hgl fun D4 d1 d2 d3 => ?_
          rw [fop, fgl]
          have ena : sNx (sOp (sPs m a)) (sPs m a (34 + i)) (sGl (sPs m a) i) = sNa (sPs m a) i := rfl
          rw [ena]
          have p4 : Fr b (b + 27) D D4 := p1.trans (d1.wide (by omega) (by omega))
          refine ⟨fun q => ?_, fun q => ?_⟩
          · have hn : inC (sNa (sPs m a) i) := sNx_in hat
            have hn0 := hn.1
            refine c_gset hb d2 i0 (by omega) (by omega) (by omega) (by rw [show 16 + 6 * 3 + i = 34 + i by omega]; exact sAtset_wa d2.2.2.1 i0 (by omega) hn) fun D5 g1 g2 => ?_
            rw [show 16 + 6 * 3 + i = 34 + i by omega, sMid_s i0] at g2
            refine ⟨⟨by omega, by omega⟩, ⟨by omega, by omega⟩, ?_⟩
            have := ihs (i + 1) D5 (zi (sPs m a (34 + i))) (zi (sNa (sPs m a) i)) (by omega) (by omega) (by omega) (p4.trans (g1.wide (by omega) (by omega))) g2 ((d3.eq (by rw [fop, sMid_op (by omega) (by omega)])).fr (g1 _ (by omega)))
            rw [zs, if_neg q, ← Int.add_assoc] at this
            exact this
          · have q' : sNa (sPs m a) i = sPs m a (34 + i) := Decidable.not_not.mp q
            refine ⟨⟨by omega, by omega⟩, ?_⟩
            have em : sMid (sPs m a) (i + 1) = sMid (sPs m a) i := by
              rw [← sMid_s i0]
              funext j
              unfold zA
              split
              · rename_i e
                rw [e, f34]; exact q'
              · rfl
            have := ihs (i + 1) D4 (zi (sPs m a (34 + i))) (zi (sNa (sPs m a) i)) (by omega) (by omega) (by omega) p4 (by rw [em]; exact d2) (by rw [em]; exact d3)
            rw [zs, if_pos q', Int.add_zero] at this
            exact this
      have := inner _ 0 D2 v5 v6 rfl (by omega) c1.1 q1 (by rw [sMid_0]; exact q2) (by rw [sMid_0]; exact q3.eq eop)
      rw [show zsum (0 : Int).toNat (fun i => if sNa (sPs m a) i = sPs m a (34 + i) then (0 : Int) else 1) = 0 from rfl, Int.add_zero] at this
      exact this
  refine e_X0_pass ?_
  simp only [tX0_pass_0, w_ic, w_lc, w_lds, w_ild, w_lld, w_ald, w_ist, w_lst, w_ast, w_iinc, w_iadd, w_isub, w_imul, w_idiv, w_irem, w_iand, w_ior, w_ixor, w_ishl, w_ishr, w_iushr, w_ineg, w_ladd, w_lsub, w_lmul, w_ldiv, w_lrem, w_lcmp, w_i2l, w_l2i, w_dup, w_pop, w_dup2, w_ieq, w_zeq, w_ine, w_zne, w_ilt, w_zlt, w_ige, w_zge, w_igt, w_zgt, w_ile, w_zle, w_cut, w_tsw, zsw, w_iret, w_zret, w_lret, w_vret, w_nret, w_getI, w_getJ, w_getR, w_putI, w_putZ, w_putJ, w_iald, w_zald, w_iast, w_zast, w_alen, w_sI, w_sJ, w_sV, w_vI, w_vJ, w_vV, w_tI, w_mmax, w_mmin, w_mabs, w_lmax, w_acopy, gL, sL, kl_i, kl_l, kl_r, kl_s, kl_m, qI_i, qJ_l, qA_r, qA_s, pI_i, pJ_l, pA_r, pS_s, pM_m, pV_v, c1_i, c1_r, c1_s, c1_m, cS_0, cS_i, cS_l, cS_r, cS_s, cS_m, pN, z_rc_r, zE1, zE2, zE3, true_and, and_true, Nat.zero_add, Nat.reduceAdd, Nat.reduceLeDiff, true_or, or_true, hb.o]
  refine c_layWays hb h fun D1 h1 h2 h3 => ?_
  refine outer _ 0 D1 _ _ _ rfl (by omega) (h1.wide (by omega) (by omega)) ?_ h3
  rw [show M + ((0 : Nat) : Int) = M by omega]
  exact h2
theorem c_trace {M : Int} {b o r : Nat} {a : Int → Int} {i : Int} {D : Mem} {P : Int → Mem → Prop} (hb : zBk b) (hR : zRow o r 61) (hr : b + 27 ≤ r) (h : BK M D b a) (i0 : 0 ≤ i) (i1 : i < a 1) (hP : ∀ D', (∀ q, (q < b + 22 ∨ b + 27 ≤ q) → q ≠ r → D' q = D q) → BK M D' b a → (∀ m : Nat, m ≤ 60 → D' r m = sAt a i m) → P 0 D') : zC miX0_trace [zr b, zi i, zr o] D P := by
  have w := h.2.2.1
  have hgl := w.gl i0 i1
  have h61 : ((61 : Nat) : Int) = 61 := rfl
  have loop : ∀ (s m : Nat) (D2 : Mem), 61 - m = s → m ≤ 61 → (∀ q, (q < b + 22 ∨ b + 27 ≤ q) → q ≠ r → D2 q = D q) → BK M D2 b a → zOP D2 b a → (∀ k : Nat, k < m → D2 r k = sAt a i k) → zW miX0_trace P 24 [zr b, zi i, zr o, zi (sAt a i m), zi (sGl a i), zi m] D2 := by
    intro s
    induction s with
    | zero =>
      intro m D2 hs hm q1 q2 q3 q4
      refine sX0_trace_24 _ _ _ _ _ ?_
      simp only [tX0_trace_24, w_ic, w_lc, w_lds, w_ild, w_lld, w_ald, w_ist, w_lst, w_ast, w_iinc, w_iadd, w_isub, w_imul, w_idiv, w_irem, w_iand, w_ior, w_ixor, w_ishl, w_ishr, w_iushr, w_ineg, w_ladd, w_lsub, w_lmul, w_ldiv, w_lrem, w_lcmp, w_i2l, w_l2i, w_dup, w_pop, w_dup2, w_ieq, w_zeq, w_ine, w_zne, w_ilt, w_zlt, w_ige, w_zge, w_igt, w_zgt, w_ile, w_zle, w_cut, w_tsw, zsw, w_iret, w_zret, w_lret, w_vret, w_nret, w_getI, w_getJ, w_getR, w_putI, w_putZ, w_putJ, w_iald, w_zald, w_iast, w_zast, w_alen, w_sI, w_sJ, w_sV, w_vI, w_vJ, w_vV, w_tI, w_mmax, w_mmin, w_mabs, w_lmax, w_acopy, gL, sL, kl_i, kl_l, kl_r, kl_s, kl_m, qI_i, qJ_l, qA_r, qA_s, pI_i, pJ_l, pA_r, pS_s, pM_m, pV_v, c1_i, c1_r, c1_s, c1_m, cS_0, cS_i, cS_l, cS_r, cS_s, cS_m, pN, z_rc_r, zE1, zE2, zE3, true_and, and_true, Nat.zero_add, Nat.reduceAdd, Nat.reduceLeDiff, true_or, or_true, hb.o]
      exact ⟨fun _ => hP D2 q1 q2 fun k hk => q4 k (by omega), fun q => absurd (by omega) q⟩
    | succ s ih =>
      intro m D2 hs hm q1 q2 q3 q4
      have hat := sAt_in w i0 i1 m
      refine sX0_trace_24 _ _ _ _ _ ?_
      simp only [tX0_trace_24, w_ic, w_lc, w_lds, w_ild, w_lld, w_ald, w_ist, w_lst, w_ast, w_iinc, w_iadd, w_isub, w_imul, w_idiv, w_irem, w_iand, w_ior, w_ixor, w_ishl, w_ishr, w_iushr, w_ineg, w_ladd, w_lsub, w_lmul, w_ldiv, w_lrem, w_lcmp, w_i2l, w_l2i, w_dup, w_pop, w_dup2, w_ieq, w_zeq, w_ine, w_zne, w_ilt, w_zlt, w_ige, w_zge, w_igt, w_zgt, w_ile, w_zle, w_cut, w_tsw, zsw, w_iret, w_zret, w_lret, w_vret, w_nret, w_getI, w_getJ, w_getR, w_putI, w_putZ, w_putJ, w_iald, w_zald, w_iast, w_zast, w_alen, w_sI, w_sJ, w_sV, w_vI, w_vJ, w_vV, w_tI, w_mmax, w_mmin, w_mabs, w_lmax, w_acopy, gL, sL, kl_i, kl_l, kl_r, kl_s, kl_m, qI_i, qJ_l, qA_r, qA_s, pI_i, pJ_l, pA_r, pS_s, pM_m, pV_v, c1_i, c1_r, c1_s, c1_m, cS_0, cS_i, cS_l, cS_r, cS_s, cS_m, pN, z_rc_r, zE1, zE2, zE3, true_and, and_true, Nat.zero_add, Nat.reduceAdd, Nat.reduceLeDiff, true_or, or_true, hb.o, hb.fr7, hb.zf7, hb.wo, hR.o]
      refine ⟨fun q => absurd q (by omega), fun _ => ?_⟩
      refine c_Row_set hR (by omega) (by omega) ?_
      have u1 : ∀ q, (q < b + 22 ∨ b + 27 ≤ q) → q ≠ r → zU D2 r m (sAt a i m) q = D q := fun q a1 a2 => by rw [zU_ne a2]; exact q1 q a1 a2
      have u2 : BK M (zU D2 r m (sAt a i m)) b a := q2.out (fun q _ a2 => zU_ne (by omega))
      have u3 : zOP (zU D2 r m (sAt a i m)) b a := q3.fr (zU_ne (by omega))
      have u4 : ∀ k : Nat, k < m + 1 → zU D2 r m (sAt a i m) r k = sAt a i k := by
        intro k hk
        by_cases e : k = m
        · rw [e, zU_s]
        · rw [zU_k (by omega)]; exact q4 k (by omega)
      refine ⟨fun q => ⟨⟨by omega, by omega⟩, ?_⟩, fun _ => ?_⟩
      · have e : sAt a i (m + 1) = sAt a i m := by
          show sNx (sOp a) (sAt a i m) (sGl a i) = _
          rw [q]
          exact sNx_goal hgl
        have := ih (m + 1) _ (by omega) (by omega) u1 u2 u3 u4
        rw [e] at this
        exact this
      · refine c_gnext hb u2 u3 hat hgl fun D3 d1 d2 d3 => ⟨⟨by omega, by omega⟩, ?_⟩
        refine ih (m + 1) D3 (by omega) (by omega) (fun q a1 a2 => by rw [d1 q a1]; exact u1 q a1 a2) d2 d3 (fun k hk => by rw [d1 r (by omega)]; exact u4 k hk)
  refine e_X0_trace ?_
  simp only [tX0_trace_0, w_ic, w_lc, w_lds, w_ild, w_lld, w_ald, w_ist, w_lst, w_ast, w_iinc, w_iadd, w_isub, w_imul, w_idiv, w_irem, w_iand, w_ior, w_ixor, w_ishl, w_ishr, w_iushr, w_ineg, w_ladd, w_lsub, w_lmul, w_ldiv, w_lrem, w_lcmp, w_i2l, w_l2i, w_dup, w_pop, w_dup2, w_ieq, w_zeq, w_ine, w_zne, w_ilt, w_zlt, w_ige, w_zge, w_igt, w_zgt, w_ile, w_zle, w_cut, w_tsw, zsw, w_iret, w_zret, w_lret, w_vret, w_nret, w_getI, w_getJ, w_getR, w_putI, w_putZ, w_putJ, w_iald, w_zald, w_iast, w_zast, w_alen, w_sI, w_sJ, w_sV, w_vI, w_vJ, w_vV, w_tI, w_mmax, w_mmin, w_mabs, w_lmax, w_acopy, gL, sL, kl_i, kl_l, kl_r, kl_s, kl_m, qI_i, qJ_l, qA_r, qA_s, pI_i, pJ_l, pA_r, pS_s, pM_m, pV_v, c1_i, c1_r, c1_s, c1_m, cS_0, cS_i, cS_l, cS_r, cS_s, cS_m, pN, z_rc_r, zE1, zE2, zE3, true_and, and_true, Nat.zero_add, Nat.reduceAdd, Nat.reduceLeDiff, true_or, or_true, hb.o, hb.fr1, hb.zf1, hb.r1.o]
  refine c_layWays hb h fun D1 h1 h2 h3 => ?_
  refine c_gget hb h2 i0 i1 (by omega) (by omega) ?_
  rw [show 16 + 6 * 3 + i = 34 + i by omega]
  refine c_goalOf hb h2 i0 i1 ?_
  exact loop _ 0 D1 rfl (by omega) (fun q a1 _ => h1 q a1) h2 h3 (fun k hk => by omega)
noncomputable def sAr (a : Int → Int) : Int := zsum (a 1).toNat (fun i => if a (34 + i) = sGl a i then 1 else 0)
theorem c_arrived {M : Int} {b : Nat} {a : Int → Int} {D : Mem} {P : Int → Mem → Prop} (hb : zBk b) (h : BK M D b a) (hP : P (sAr a) D) : zC miX0_arrived [zr b] D P := by
  have c1 := h.2.2.1.n1
  have loop : ∀ (s : Nat) (i : Int), (a 1 - i).toNat = s → 0 ≤ i → i ≤ a 1 → zW miX0_arrived P 4 [zr b, zi (zsum i.toNat (fun i => if a (34 + i) = sGl a i then 1 else 0)), zi i] D := by
    intro s
    induction s with
    | zero =>
      intro i hs i0 i1
      refine sX0_arrived_4 _ _ _ _ _ ?_
      simp only [tX0_arrived_4, w_ic, w_lc, w_lds, w_ild, w_lld, w_ald, w_ist, w_lst, w_ast, w_iinc, w_iadd, w_isub, w_imul, w_idiv, w_irem, w_iand, w_ior, w_ixor, w_ishl, w_ishr, w_iushr, w_ineg, w_ladd, w_lsub, w_lmul, w_ldiv, w_lrem, w_lcmp, w_i2l, w_l2i, w_dup, w_pop, w_dup2, w_ieq, w_zeq, w_ine, w_zne, w_ilt, w_zlt, w_ige, w_zge, w_igt, w_zgt, w_ile, w_zle, w_cut, w_tsw, zsw, w_iret, w_zret, w_lret, w_vret, w_nret, w_getI, w_getJ, w_getR, w_putI, w_putZ, w_putJ, w_iald, w_zald, w_iast, w_zast, w_alen, w_sI, w_sJ, w_sV, w_vI, w_vJ, w_vV, w_tI, w_mmax, w_mmin, w_mabs, w_lmax, w_acopy, gL, sL, kl_i, kl_l, kl_r, kl_s, kl_m, qI_i, qJ_l, qA_r, qA_s, pI_i, pJ_l, pA_r, pS_s, pM_m, pV_v, c1_i, c1_r, c1_s, c1_m, cS_0, cS_i, cS_l, cS_r, cS_s, cS_m, pN, z_rc_r, zE1, zE2, zE3, true_and, and_true, Nat.zero_add, Nat.reduceAdd, Nat.reduceLeDiff, true_or, or_true, hb.o, hb.fr1, hb.zf1, hb.r1.o]
      refine c_gsize hb h ⟨fun _ => ?_, fun q => absurd (by omega) q⟩
      rw [show i = a 1 by omega]
      exact hP
    | succ s ih =>
      intro i hs i0 i1
      have zs := zsum_s (f := fun i => if a (34 + i) = sGl a i then (1 : Int) else 0) i0
      have zb : 0 ≤ zsum i.toNat (fun i => if a (34 + i) = sGl a i then (1 : Int) else 0) ∧ zsum i.toNat (fun i => if a (34 + i) = sGl a i then (1 : Int) else 0) ≤ (i.toNat : Int) * 1 := zsum_b _ (fun k _ _ => by split <;> omega)
      refine sX0_arrived_4 _ _ _ _ _ ?_
      simp only [tX0_arrived_4, w_ic, w_lc, w_lds, w_ild, w_lld, w_ald, w_ist, w_lst, w_ast, w_iinc, w_iadd, w_isub, w_imul, w_idiv, w_irem, w_iand, w_ior, w_ixor, w_ishl, w_ishr, w_iushr, w_ineg, w_ladd, w_lsub, w_lmul, w_ldiv, w_lrem, w_lcmp, w_i2l, w_l2i, w_dup, w_pop, w_dup2, w_ieq, w_zeq, w_ine, w_zne, w_ilt, w_zlt, w_ige, w_zge, w_igt, w_zgt, w_ile, w_zle, w_cut, w_tsw, zsw, w_iret, w_zret, w_lret, w_vret, w_nret, w_getI, w_getJ, w_getR, w_putI, w_putZ, w_putJ, w_iald, w_zald, w_iast, w_zast, w_alen, w_sI, w_sJ, w_sV, w_vI, w_vJ, w_vV, w_tI, w_mmax, w_mmin, w_mabs, w_lmax, w_acopy, gL, sL, kl_i, kl_l, kl_r, kl_s, kl_m, qI_i, qJ_l, qA_r, qA_s, pI_i, pJ_l, pA_r, pS_s, pM_m, pV_v, c1_i, c1_r, c1_s, c1_m, cS_0, cS_i, cS_l, cS_r, cS_s, cS_m, pN, z_rc_r, zE1, zE2, zE3, true_and, and_true, Nat.zero_add, Nat.reduceAdd, Nat.reduceLeDiff, true_or, or_true, hb.o, hb.fr1, hb.zf1, hb.r1.o]
      refine c_gsize hb h ⟨fun q => absurd q (by omega), fun _ => ?_⟩
      refine c_gget hb h i0 (by omega) (by omega) (by omega) ?_
      rw [show 16 + 6 * 3 + i = 34 + i by omega]
      refine c_goalOf hb h i0 (by omega) ?_
      have := ih (i + 1) (by omega) (by omega) (by omega)
      rw [zs] at this
      refine ⟨fun q => ⟨⟨by omega, by omega⟩, ?_⟩, fun q => ⟨⟨by omega, by omega⟩, ⟨by omega, by omega⟩, ?_⟩⟩
      · rw [if_neg q, Int.add_zero] at this; exact this
      · rw [if_pos (Decidable.not_not.mp q)] at this; exact this
  refine e_X0_arrived ?_
  simp only [tX0_arrived_0, w_ic, w_lc, w_lds, w_ild, w_lld, w_ald, w_ist, w_lst, w_ast, w_iinc, w_iadd, w_isub, w_imul, w_idiv, w_irem, w_iand, w_ior, w_ixor, w_ishl, w_ishr, w_iushr, w_ineg, w_ladd, w_lsub, w_lmul, w_ldiv, w_lrem, w_lcmp, w_i2l, w_l2i, w_dup, w_pop, w_dup2, w_ieq, w_zeq, w_ine, w_zne, w_ilt, w_zlt, w_ige, w_zge, w_igt, w_zgt, w_ile, w_zle, w_cut, w_tsw, zsw, w_iret, w_zret, w_lret, w_vret, w_nret, w_getI, w_getJ, w_getR, w_putI, w_putZ, w_putJ, w_iald, w_zald, w_iast, w_zast, w_alen, w_sI, w_sJ, w_sV, w_vI, w_vJ, w_vV, w_tI, w_mmax, w_mmin, w_mabs, w_lmax, w_acopy, gL, sL, kl_i, kl_l, kl_r, kl_s, kl_m, qI_i, qJ_l, qA_r, qA_s, pI_i, pJ_l, pA_r, pS_s, pM_m, pV_v, c1_i, c1_r, c1_s, c1_m, cS_0, cS_i, cS_l, cS_r, cS_s, cS_m, pN, z_rc_r, zE1, zE2, zE3, true_and, and_true, Nat.zero_add, Nat.reduceAdd, Nat.reduceLeDiff, true_or, or_true, hb.o]
  exact loop _ 0 rfl (by omega) c1.1
theorem zp2_b : ∀ n : Nat, n < 31 → (2 : Int) ^ n < 2147483648 := by decide
/-- one more bit on top -/
theorem bO_add {x i : Int} (i0 : 0 ≤ i) (i1 : i < 31) (x0 : 0 ≤ x) (x1 : x < 2 ^ i.toNat) : bO x (bL 1 i) = x + 2 ^ i.toNat := by
  obtain ⟨q, rfl⟩ := Int.eq_ofNat_of_zero_le i0
  obtain ⟨n, rfl⟩ := Int.eq_ofNat_of_zero_le x0
  rw [Int.toNat_natCast] at x1 ⊢
  have x1' : n < 2 ^ q := by
    have : ((2 : Int) ^ q) = ((2 ^ q : Nat) : Int) := by simp
    omega
  have hq : 2 ^ q < 2 ^ 31 := Nat.pow_lt_pow_right (by decide) (by omega)
  have e1 : bL 1 (q : Int) = ((2 ^ q : Nat) : Int) := by
    have := bL_n (x := 1) (k := q) (by omega) (by omega)
    rw [Nat.one_mul] at this
    exact this
  rw [e1, bO_n (by omega) (by omega)]
  have := Nat.two_pow_add_eq_or_of_lt x1' 1
  rw [Nat.mul_one] at this
  rw [Nat.or_comm, ← this]
  simp [Int.add_comm]
theorem zbits_s {f : Int → Int} {i : Int} (h : 0 ≤ i) : zbits (i + 1).toNat f = zbits i.toNat f + (if f i = 0 then 0 else 2 ^ i.toNat) := by
  unfold zbits
  rw [zsum_s h]
theorem sHr_1 {a : Int → Int} {k i : Int} : sHr a k i = 0 ∨ sHr a k i = 1 := by
  unfold sHr
  split
  · exact Or.inl rfl
  · split
    · exact Or.inr rfl
    · exact Or.inl rfl
theorem c_heardAt {M : Int} {b : Nat} {a : Int → Int} {k : Int} {D : Mem} {P : Int → Mem → Prop} (hb : zBk b) (h : BK M D b a) (k0 : 0 ≤ k) (k1 : k < a 2) (hP : ∀ D', Fr (b + 22) (b + 27) D D' → BK M D' b a → P (zbits (a 1).toNat (sHr a k)) D') : zC miX0_heardAt [zr b, zi k] D P := by
  have w := h.2.2.1
  have c1 := w.n1
  have loop : ∀ (s : Nat) (i : Int) (v : AV) (D2 : Mem), (a 1 - i).toNat = s → 0 ≤ i → i ≤ a 1 → Fr (b + 22) (b + 27) D D2 → BK M D2 b a → zOP D2 b a → zW miX0_heardAt P 8 [zr b, zi k, zi (zbits i.toNat (sHr a k)), zi i, v] D2 := by
    intro s
    induction s with
    | zero =>
      intro i v D2 hs i0 i1 q1 q2 q3
      refine sX0_heardAt_8 _ _ _ _ _ ?_
      simp only [tX0_heardAt_8, w_ic, w_lc, w_lds, w_ild, w_lld, w_ald, w_ist, w_lst, w_ast, w_iinc, w_iadd, w_isub, w_imul, w_idiv, w_irem, w_iand, w_ior, w_ixor, w_ishl, w_ishr, w_iushr, w_ineg, w_ladd, w_lsub, w_lmul, w_ldiv, w_lrem, w_lcmp, w_i2l, w_l2i, w_dup, w_pop, w_dup2, w_ieq, w_zeq, w_ine, w_zne, w_ilt, w_zlt, w_ige, w_zge, w_igt, w_zgt, w_ile, w_zle, w_cut, w_tsw, zsw, w_iret, w_zret, w_lret, w_vret, w_nret, w_getI, w_getJ, w_getR, w_putI, w_putZ, w_putJ, w_iald, w_zald, w_iast, w_zast, w_alen, w_sI, w_sJ, w_sV, w_vI, w_vJ, w_vV, w_tI, w_mmax, w_mmin, w_mabs, w_lmax, w_acopy, gL, sL, kl_i, kl_l, kl_r, kl_s, kl_m, qI_i, qJ_l, qA_r, qA_s, pI_i, pJ_l, pA_r, pS_s, pM_m, pV_v, c1_i, c1_r, c1_s, c1_m, cS_0, cS_i, cS_l, cS_r, cS_s, cS_m, pN, z_rc_r, zE1, zE2, zE3, true_and, and_true, Nat.zero_add, Nat.reduceAdd, Nat.reduceLeDiff, true_or, or_true, hb.o, hb.fr1, hb.zf1, hb.r1.o]
      refine c_gsize hb q2 ⟨fun _ => ?_, fun q => absurd (by omega) q⟩
      rw [show i = a 1 by omega]
      exact hP D2 q1 q2
    | succ s ih =>
      intro i v D2 hs i0 i1 q1 q2 q3
      have zb := zbits_b (f := sHr a k) i.toNat
      have zs := zbits_s (f := sHr a k) i0
      have hat : inC (a (34 + i)) := (w.w1.2 i i0 (by omega)).2.2.2.1
      have hlo := zLo_b (k := a (16 + i)) (f := a (34 + i) / 4) (m := a 3) (by have := hat.1; omega) (by have := hat.2; omega)
      refine sX0_heardAt_8 _ _ _ _ _ ?_
      simp only [tX0_heardAt_8, w_ic, w_lc, w_lds, w_ild, w_lld, w_ald, w_ist, w_lst, w_ast, w_iinc, w_iadd, w_isub, w_imul, w_idiv, w_irem, w_iand, w_ior, w_ixor, w_ishl, w_ishr, w_iushr, w_ineg, w_ladd, w_lsub, w_lmul, w_ldiv, w_lrem, w_lcmp, w_i2l, w_l2i, w_dup, w_pop, w_dup2, w_ieq, w_zeq, w_ine, w_zne, w_ilt, w_zlt, w_ige, w_zge, w_igt, w_zgt, w_ile, w_zle, w_cut, w_tsw, zsw, w_iret, w_zret, w_lret, w_vret, w_nret, w_getI, w_getJ, w_getR, w_putI, w_putZ, w_putJ, w_iald, w_zald, w_iast, w_zast, w_alen, w_sI, w_sJ, w_sV, w_vI, w_vJ, w_vV, w_tI, w_mmax, w_mmin, w_mabs, w_lmax, w_acopy, gL, sL, kl_i, kl_l, kl_r, kl_s, kl_m, qI_i, qJ_l, qA_r, qA_s, pI_i, pJ_l, pA_r, pS_s, pM_m, pV_v, c1_i, c1_r, c1_s, c1_m, cS_0, cS_i, cS_l, cS_r, cS_s, cS_m, pN, z_rc_r, zE1, zE2, zE3, true_and, and_true, Nat.zero_add, Nat.reduceAdd, Nat.reduceLeDiff, true_or, or_true, hb.o, hb.fr1, hb.zf1, hb.r1.o]
      refine c_gsize hb q2 ⟨fun q => absurd q (by omega), fun _ => ?_⟩
      refine c_loudStep hb q2 q3 i0 (by omega) fun D3 d1 d2 d3 => ?_
      have next := fun v => ih (i + 1) v D3 (by omega) (by omega) (by omega) (q1.trans d1) d2 d3
      have no : sHr a k i = 0 → ∀ v, zW miX0_heardAt P 8 [zr b, zi k, zi (zbits i.toNat (sHr a k)), zi (i + 1), v] D3 := by
        intro e v
        have := next v
        rw [zs, if_pos e, Int.add_zero] at this
        exact this
      refine ⟨fun q => ⟨⟨by omega, by omega⟩, no ?_ _⟩, fun q => ?_⟩
      · by_cases e : sNa a i = a (34 + i)
        · unfold sHr; rw [if_pos e]
        · rw [if_neg e] at q; omega
      · have e : ¬ sNa a i = a (34 + i) := fun e => by rw [if_pos e] at q; exact q rfl
        rw [if_neg e]
        refine c_gget hb d2 i0 (by omega) (by omega) (by omega) ?_
        rw [show 16 + 6 * 3 + i = 34 + i by omega]
        refine c_hears hb d2 k0 k1 hlo.1 (by omega) hat (fun q2 => ⟨fun w => absurd w (by decide), fun _ => ⟨⟨by omega, by omega⟩, ?_⟩⟩) (fun q2 => ⟨fun _ => ⟨⟨by omega, by omega⟩, no ?_ _⟩, fun w => absurd rfl w⟩)
        · have e1 : sHr a k i = 1 := by unfold sHr; rw [if_neg e, if_pos q2]
          have := next (zi (zLo (a (16 + i)) (a (34 + i) / 4) (a 3)))
          rw [zs, if_neg (by omega), ← bO_add i0 (by omega) zb.1 zb.2] at this
          exact this
        · unfold sHr; rw [if_neg e, if_neg q2]
  refine e_X0_heardAt ?_
  simp only [tX0_heardAt_0, w_ic, w_lc, w_lds, w_ild, w_lld, w_ald, w_ist, w_lst, w_ast, w_iinc, w_iadd, w_isub, w_imul, w_idiv, w_irem, w_iand, w_ior, w_ixor, w_ishl, w_ishr, w_iushr, w_ineg, w_ladd, w_lsub, w_lmul, w_ldiv, w_lrem, w_lcmp, w_i2l, w_l2i, w_dup, w_pop, w_dup2, w_ieq, w_zeq, w_ine, w_zne, w_ilt, w_zlt, w_ige, w_zge, w_igt, w_zgt, w_ile, w_zle, w_cut, w_tsw, zsw, w_iret, w_zret, w_lret, w_vret, w_nret, w_getI, w_getJ, w_getR, w_putI, w_putZ, w_putJ, w_iald, w_zald, w_iast, w_zast, w_alen, w_sI, w_sJ, w_sV, w_vI, w_vJ, w_vV, w_tI, w_mmax, w_mmin, w_mabs, w_lmax, w_acopy, gL, sL, kl_i, kl_l, kl_r, kl_s, kl_m, qI_i, qJ_l, qA_r, qA_s, pI_i, pJ_l, pA_r, pS_s, pM_m, pV_v, c1_i, c1_r, c1_s, c1_m, cS_0, cS_i, cS_l, cS_r, cS_s, cS_m, pN, z_rc_r, zE1, zE2, zE3, true_and, and_true, Nat.zero_add, Nat.reduceAdd, Nat.reduceLeDiff, true_or, or_true, hb.o]
  refine c_layWays hb h fun D1 h1 h2 h3 => ?_
  exact loop _ 0 _ D1 rfl (by omega) c1.1 h1 h2 h3
noncomputable def sHA (a : Int → Int) : Int := zsum (a 1).toNat (fun i => zsum (a 2).toNat (fun k => sHr a k i))
theorem c_heardInAll {M : Int} {b : Nat} {a : Int → Int} {D : Mem} {P : Int → Mem → Prop} (hb : zBk b) (h : BK M D b a) (hP : ∀ D', Fr (b + 22) (b + 27) D D' → BK M D' b a → P (sHA a) D') : zC miX0_heardInAll [zr b] D P := by
  have w := h.2.2.1
  have c1 := w.n1
  have c2 := w.n2
  have zk : ∀ (i : Int) (n : Nat), 0 ≤ zsum n (fun k => sHr a k i) ∧ zsum n (fun k => sHr a k i) ≤ (n : Int) * 1 := fun i n => zsum_b n (fun k _ _ => by rcases sHr_1 (a := a) (k := k) (i := i) with q | q <;> rw [q] <;> omega)
  have loop : ∀ (s : Nat) (i : Int) (v v2 : AV) (D2 : Mem), (a 1 - i).toNat = s → 0 ≤ i → i ≤ a 1 → Fr (b + 22) (b + 27) D D2 → BK M D2 b a → zOP D2 b a → zW miX0_heardInAll P 8 [zr b, zi (zsum i.toNat (fun i => zsum (a 2).toNat (fun k => sHr a k i))), zi i, v, v2] D2 := by
    intro s
    induction s with
    | zero =>
      intro i v v2 D2 hs i0 i1 q1 q2 q3
      refine sX0_heardInAll_8 _ _ _ _ _ ?_
      simp only [tX0_heardInAll_8, w_ic, w_lc, w_lds, w_ild, w_lld, w_ald, w_ist, w_lst, w_ast, w_iinc, w_iadd, w_isub, w_imul, w_idiv, w_irem, w_iand, w_ior, w_ixor, w_ishl, w_ishr, w_iushr, w_ineg, w_ladd, w_lsub, w_lmul, w_ldiv, w_lrem, w_lcmp, w_i2l, w_l2i, w_dup, w_pop, w_dup2, w_ieq, w_zeq, w_ine, w_zne, w_ilt, w_zlt, w_ige, w_zge, w_igt, w_zgt, w_ile, w_zle, w_cut, w_tsw, zsw, w_iret, w_zret, w_lret, w_vret, w_nret, w_getI, w_getJ, w_getR, w_putI, w_putZ, w_putJ, w_iald, w_zald, w_iast, w_zast, w_alen, w_sI, w_sJ, w_sV, w_vI, w_vJ, w_vV, w_tI, w_mmax, w_mmin, w_mabs, w_lmax, w_acopy, gL, sL, kl_i, kl_l, kl_r, kl_s, kl_m, qI_i, qJ_l, qA_r, qA_s, pI_i, pJ_l, pA_r, pS_s, pM_m, pV_v, c1_i, c1_r, c1_s, c1_m, cS_0, cS_i, cS_l, cS_r, cS_s, cS_m, pN, z_rc_r, zE1, zE2, zE3, true_and, and_true, Nat.zero_add, Nat.reduceAdd, Nat.reduceLeDiff, true_or, or_true, hb.o, hb.fr1, hb.zf1, hb.r1.o]
      refine c_gsize hb q2 ⟨fun _ => ?_, fun q => absurd (by omega) q⟩
      rw [show i = a 1 by omega]
      exact hP D2 q1 q2
    | succ s ih =>
      intro i v v2 D2 hs i0 i1 q1 q2 q3
      have zb := zsum_b (f := fun i => zsum (a 2).toNat (fun k => sHr a k i)) (m := 4) i.toNat (fun i _ _ => by have := zk i (a 2).toNat; omega)
      have zs := zsum_s (f := fun i => zsum (a 2).toNat (fun k => sHr a k i)) i0
      have hat : inC (a (34 + i)) := (w.w1.2 i i0 (by omega)).2.2.2.1
      have hlo := zLo_b (k := a (16 + i)) (f := a (34 + i) / 4) (m := a 3) (by have := hat.1; omega) (by have := hat.2; omega)
      refine sX0_heardInAll_8 _ _ _ _ _ ?_
      simp only [tX0_heardInAll_8, w_ic, w_lc, w_lds, w_ild, w_lld, w_ald, w_ist, w_lst, w_ast, w_iinc, w_iadd, w_isub, w_imul, w_idiv, w_irem, w_iand, w_ior, w_ixor, w_ishl, w_ishr, w_iushr, w_ineg, w_ladd, w_lsub, w_lmul, w_ldiv, w_lrem, w_lcmp, w_i2l, w_l2i, w_dup, w_pop, w_dup2, w_ieq, w_zeq, w_ine, w_zne, w_ilt, w_zlt, w_ige, w_zge, w_igt, w_zgt, w_ile, w_zle, w_cut, w_tsw, zsw, w_iret, w_zret, w_lret, w_vret, w_nret, w_getI, w_getJ, w_getR, w_putI, w_putZ, w_putJ, w_iald, w_zald, w_iast, w_zast, w_alen, w_sI, w_sJ, w_sV, w_vI, w_vJ, w_vV, w_tI, w_mmax, w_mmin, w_mabs, w_lmax, w_acopy, gL, sL, kl_i, kl_l, kl_r, kl_s, kl_m, qI_i, qJ_l, qA_r, qA_s, pI_i, pJ_l, pA_r, pS_s, pM_m, pV_v, c1_i, c1_r, c1_s, c1_m, cS_0, cS_i, cS_l, cS_r, cS_s, cS_m, pN, z_rc_r, zE1, zE2, zE3, true_and, and_true, Nat.zero_add, Nat.reduceAdd, Nat.reduceLeDiff, true_or, or_true, hb.o, hb.fr1, hb.zf1, hb.r1.o]
      refine c_gsize hb q2 ⟨fun q => absurd q (by omega), fun _ => ?_⟩
      refine c_loudStep hb q2 q3 i0 (by omega) fun D3 d1 d2 d3 => ?_
      have next := fun v v2 => ih (i + 1) v v2 D3 (by omega) (by omega) (by omega) (q1.trans d1) d2 d3
      rw [zs] at next
      refine ⟨fun q => ?_, fun q => ⟨⟨by omega, by omega⟩, ?_⟩⟩
      · have e : ¬ sNa a i = a (34 + i) := fun e => by rw [if_pos e] at q; exact q rfl
        rw [if_neg e]
        have inner : ∀ (r : Nat) (k : Int), (a 2 - k).toNat = r → 0 ≤ k → k ≤ a 2 → zW miX0_heardInAll P 36 [zr b, zi (zsum i.toNat (fun i => zsum (a 2).toNat (fun k => sHr a k i)) + zsum k.toNat (fun k => sHr a k i)), zi i, zi (zLo (a (16 + i)) (a (34 + i) / 4) (a 3)), zi k] D3 := by
          intro r
          induction r with
          | zero =>
            intro k hr k0 k1
            refine sX0_heardInAll_36 _ _ _ _ _ ?_
            simp only [tX0_heardInAll_36, w_ic, w_lc, w_lds, w_ild, w_lld, w_ald, w_ist, w_lst, w_ast, w_iinc, w_iadd, w_isub, w_imul, w_idiv, w_irem, w_iand, w_ior, w_ixor, w_ishl, w_ishr, w_iushr, w_ineg, w_ladd, w_lsub, w_lmul, w_ldiv, w_lrem, w_lcmp, w_i2l, w_l2i, w_dup, w_pop, w_dup2, w_ieq, w_zeq, w_ine, w_zne, w_ilt, w_zlt, w_ige, w_zge, w_igt, w_zgt, w_ile, w_zle, w_cut, w_tsw, zsw, w_iret, w_zret, w_lret, w_vret, w_nret, w_getI, w_getJ, w_getR, w_putI, w_putZ, w_putJ, w_iald, w_zald, w_iast, w_zast, w_alen, w_sI, w_sJ, w_sV, w_vI, w_vJ, w_vV, w_tI, w_mmax, w_mmin, w_mabs, w_lmax, w_acopy, gL, sL, kl_i, kl_l, kl_r, kl_s, kl_m, qI_i, qJ_l, qA_r, qA_s, pI_i, pJ_l, pA_r, pS_s, pM_m, pV_v, c1_i, c1_r, c1_s, c1_m, cS_0, cS_i, cS_l, cS_r, cS_s, cS_m, pN, z_rc_r, zE1, zE2, zE3, true_and, and_true, Nat.zero_add, Nat.reduceAdd, Nat.reduceLeDiff, true_or, or_true, hb.o, hb.fr2, hb.zf2, hb.r2.o]
            refine c_wsize hb d2 ⟨fun _ => ⟨⟨by omega, by omega⟩, ?_⟩, fun q => absurd (by omega) q⟩
            rw [show k = a 2 by omega]
            exact next _ _
          | succ r ihr =>
            intro k hr k0 k1
            have zk1 := zk i k.toNat
            have zss := zsum_s (f := fun k => sHr a k i) k0
            have nx := ihr (k + 1) (by omega) (by omega) (by omega)
            rw [zss, ← Int.add_assoc] at nx
            refine sX0_heardInAll_36 _ _ _ _ _ ?_
            simp only [tX0_heardInAll_36, w_ic, w_lc, w_lds, w_ild, w_lld, w_ald, w_ist, w_lst, w_ast, w_iinc, w_iadd, w_isub, w_imul, w_idiv, w_irem, w_iand, w_ior, w_ixor, w_ishl, w_ishr, w_iushr, w_ineg, w_ladd, w_lsub, w_lmul, w_ldiv, w_lrem, w_lcmp, w_i2l, w_l2i, w_dup, w_pop, w_dup2, w_ieq, w_zeq, w_ine, w_zne, w_ilt, w_zlt, w_ige, w_zge, w_igt, w_zgt, w_ile, w_zle, w_cut, w_tsw, zsw, w_iret, w_zret, w_lret, w_vret, w_nret, w_getI, w_getJ, w_getR, w_putI, w_putZ, w_putJ, w_iald, w_zald, w_iast, w_zast, w_alen, w_sI, w_sJ, w_sV, w_vI, w_vJ, w_vV, w_tI, w_mmax, w_mmin, w_mabs, w_lmax, w_acopy, gL, sL, kl_i, kl_l, kl_r, kl_s, kl_m, qI_i, qJ_l, qA_r, qA_s, pI_i, pJ_l, pA_r, pS_s, pM_m, pV_v, c1_i, c1_r, c1_s, c1_m, cS_0, cS_i, cS_l, cS_r, cS_s, cS_m, pN, z_rc_r, zE1, zE2, zE3, true_and, and_true, Nat.zero_add, Nat.reduceAdd, Nat.reduceLeDiff, true_or, or_true, hb.o, hb.fr2, hb.zf2, hb.r2.o, hb.fr1, hb.zf1, hb.r1.o]
            refine c_wsize hb d2 ⟨fun q => absurd q (by omega), fun _ => ?_⟩
            refine c_gget hb d2 i0 (by omega) (by omega) (by omega) ?_
            rw [show 16 + 6 * 3 + i = 34 + i by omega]
            refine c_hears hb d2 k0 (by omega) hlo.1 (by omega) hat (fun q2 => ⟨fun w => absurd w (by decide), fun _ => ⟨⟨by omega, by omega⟩, ⟨by omega, by omega⟩, ?_⟩⟩) (fun q2 => ⟨fun _ => ⟨⟨by omega, by omega⟩, ?_⟩, fun w => absurd rfl w⟩)
            · have e1 : sHr a k i = 1 := by unfold sHr; rw [if_neg e, if_pos q2]
              rw [e1] at nx
              exact nx
            · have e1 : sHr a k i = 0 := by unfold sHr; rw [if_neg e, if_neg q2]
              rw [e1, Int.add_zero] at nx
              exact nx
        have := inner _ 0 rfl (by omega) c2.1
        rw [show zsum (0 : Int).toNat (fun k => sHr a k i) = 0 from rfl, Int.add_zero] at this
        exact this
      · have e : sNa a i = a (34 + i) := by
          by_cases e : sNa a i = a (34 + i)
          · exact e
          · rw [if_neg e] at q; exact absurd (Decidable.not_not.mp q) (by omega)
        have e0 : zsum (a 2).toNat (fun k => sHr a k i) = 0 := by
          rw [zsum_eq (f' := fun _ => 0) _ (fun k _ _ => by unfold sHr; rw [if_pos e])]
          exact Int.le_antisymm (by have := (zsum_b (f := fun _ => 0) (m := 0) (a 2).toNat (fun k _ _ => by omega)).2; omega) (zsum_b (f := fun _ => 0) (m := 0) (a 2).toNat (fun k _ _ => by omega)).1
        have nx := next (zi (if sNa a i = a (34 + i) then -1 else zLo (a (16 + i)) (a (34 + i) / 4) (a 3))) v2
        rw [e0, Int.add_zero] at nx
        exact nx
  refine e_X0_heardInAll ?_
  simp only [tX0_heardInAll_0, w_ic, w_lc, w_lds, w_ild, w_lld, w_ald, w_ist, w_lst, w_ast, w_iinc, w_iadd, w_isub, w_imul, w_idiv, w_irem, w_iand, w_ior, w_ixor, w_ishl, w_ishr, w_iushr, w_ineg, w_ladd, w_lsub, w_lmul, w_ldiv, w_lrem, w_lcmp, w_i2l, w_l2i, w_dup, w_pop, w_dup2, w_ieq, w_zeq, w_ine, w_zne, w_ilt, w_zlt, w_ige, w_zge, w_igt, w_zgt, w_ile, w_zle, w_cut, w_tsw, zsw, w_iret, w_zret, w_lret, w_vret, w_nret, w_getI, w_getJ, w_getR, w_putI, w_putZ, w_putJ, w_iald, w_zald, w_iast, w_zast, w_alen, w_sI, w_sJ, w_sV, w_vI, w_vJ, w_vV, w_tI, w_mmax, w_mmin, w_mabs, w_lmax, w_acopy, gL, sL, kl_i, kl_l, kl_r, kl_s, kl_m, qI_i, qJ_l, qA_r, qA_s, pI_i, pJ_l, pA_r, pS_s, pM_m, pV_v, c1_i, c1_r, c1_s, c1_m, cS_0, cS_i, cS_l, cS_r, cS_s, cS_m, pN, z_rc_r, zE1, zE2, zE3, true_and, and_true, Nat.zero_add, Nat.reduceAdd, Nat.reduceLeDiff, true_or, or_true, hb.o]
  refine c_layWays hb h fun D1 h1 h2 h3 => ?_
  exact loop _ 0 _ _ D1 rfl (by omega) c1.1 h1 h2 h3
noncomputable def sGd (op : Int → Prop) (c : Int) : Int := sd (adjO op) (fun x => 0 ≤ x ∧ x < 4) c
def bst (f : Int → Int) (k best : Int) : Prop := (best = -1 ∧ ∀ g, 0 ≤ g → g < k → f g = -1) ∨ (0 ≤ best ∧ (∃ g, 0 ≤ g ∧ g < k ∧ f g = best) ∧ ∀ g, 0 ≤ g → g < k → f g = -1 ∨ best ≤ f g)
theorem sP_sub {adj : Int → Int → Prop} {S T : Int → Prop} (h : ∀ x, S x → T x) : ∀ {n : Nat} {c : Int}, sP adj S n c → sP adj T n c
  | 0, _, q => ⟨q.1, h _ q.2⟩
  | _ + 1, _, q => ⟨q.1, q.2.imp fun b hb => ⟨sP_sub h hb.1, hb.2⟩⟩
theorem sP_pick {adj : Int → Int → Prop} {S : Int → Prop} : ∀ {n : Nat} {c : Int}, sP adj S n c → ∃ g, S g ∧ sP adj (fun x => x = g) n c
  | 0, c, q => ⟨c, q.2, q.1, rfl⟩
  | _ + 1, _, q => by
    obtain ⟨hc, b, hb, ha⟩ := q
    obtain ⟨g, g1, g2⟩ := sP_pick hb
    exact ⟨g, g1, hc, b, g2, ha⟩
theorem sGd_of {op : Int → Prop} {c best : Int} (h : bst (fun g => sD op g c) 4 best) : sGd op c = best := by
  refine sd_of ?_
  rcases h with ⟨h1, h2⟩ | ⟨h1, ⟨g, g0, g1, g2⟩, h3⟩
  · refine Or.inl ⟨h1, fun n hn => ?_⟩
    obtain ⟨g, ⟨g0, g1⟩, hg⟩ := sP_pick hn
    have := h2 g g0 g1
    rcases sD_is op g c with ⟨-, q⟩ | ⟨q, -⟩
    · exact q n hg
    · dsimp only at this; omega
  · refine Or.inr ⟨h1, ?_, fun m hm => ?_⟩
    · rcases sD_is op g c with ⟨q, -⟩ | ⟨-, q, -⟩
      · dsimp only at g2; omega
      · dsimp only at g2
        rw [g2] at q
        exact sP_sub (fun x hx => by rw [hx]; exact ⟨g0, g1⟩) q
    · obtain ⟨g', ⟨q0, q1⟩, hg⟩ := sP_pick hm
      rcases sD_is op g' c with ⟨-, q⟩ | ⟨r0, -, q⟩
      · exact absurd hg (q m)
      · have := q m hg
        rcases h3 g' q0 q1 with h4 | h4 <;> dsimp only at h4 <;> omega
theorem c_stepsToGround {M : Int} {b : Nat} {a : Int → Int} {c : Int} {D : Mem} {P : Int → Mem → Prop} (hb : zBk b) (h : BK M D b a) (hc : inC c) (hP : ∀ D', Fr (b + 22) (b + 27) D D' → BK M D' b a → P (sGd (sOp a) c) D') : zC miX0_stepsToGround [zr b, zi c] D P := by
  have loop : ∀ (s : Nat) (g best : Int) (v : AV) (D2 : Mem), (4 - g).toNat = s → 0 ≤ g → g ≤ 4 → Fr (b + 22) (b + 27) D D2 → BK M D2 b a → zOP D2 b a → bst (fun g => sD (sOp a) g c) g best → zW miX0_stepsToGround P 8 [zr b, zi c, zi best, zi g, v] D2 := by
    intro s
    induction s with
    | zero =>
      intro g best v D2 hs g0 g1 q1 q2 q3 q4
      refine sX0_stepsToGround_8 _ _ _ _ _ ?_
      simp only [tX0_stepsToGround_8, w_ic, w_lc, w_lds, w_ild, w_lld, w_ald, w_ist, w_lst, w_ast, w_iinc, w_iadd, w_isub, w_imul, w_idiv, w_irem, w_iand, w_ior, w_ixor, w_ishl, w_ishr, w_iushr, w_ineg, w_ladd, w_lsub, w_lmul, w_ldiv, w_lrem, w_lcmp, w_i2l, w_l2i, w_dup, w_pop, w_dup2, w_ieq, w_zeq, w_ine, w_zne, w_ilt, w_zlt, w_ige, w_zge, w_igt, w_zgt, w_ile, w_zle, w_cut, w_tsw, zsw, w_iret, w_zret, w_lret, w_vret, w_nret, w_getI, w_getJ, w_getR, w_putI, w_putZ, w_putJ, w_iald, w_zald, w_iast, w_zast, w_alen, w_sI, w_sJ, w_sV, w_vI, w_vJ, w_vV, w_tI, w_mmax, w_mmin, w_mabs, w_lmax, w_acopy, gL, sL, kl_i, kl_l, kl_r, kl_s, kl_m, qI_i, qJ_l, qA_r, qA_s, pI_i, pJ_l, pA_r, pS_s, pM_m, pV_v, c1_i, c1_r, c1_s, c1_m, cS_0, cS_i, cS_l, cS_r, cS_s, cS_m, pN, z_rc_r, zE1, zE2, zE3, true_and, and_true, Nat.zero_add, Nat.reduceAdd, Nat.reduceLeDiff, true_or, or_true, hb.o]
      refine ⟨fun _ => ?_, fun q => absurd (by omega) q⟩
      rw [show g = 4 by omega] at q4
      rw [← sGd_of q4]
      exact hP D2 q1 q2
    | succ s ih =>
      intro g best v D2 hs g0 g1 q1 q2 q3 q4
      have hle := sD_le (sOp a) g c
      refine sX0_stepsToGround_8 _ _ _ _ _ ?_
      simp only [tX0_stepsToGround_8, w_ic, w_lc, w_lds, w_ild, w_lld, w_ald, w_ist, w_lst, w_ast, w_iinc, w_iadd, w_isub, w_imul, w_idiv, w_irem, w_iand, w_ior, w_ixor, w_ishl, w_ishr, w_iushr, w_ineg, w_ladd, w_lsub, w_lmul, w_ldiv, w_lrem, w_lcmp, w_i2l, w_l2i, w_dup, w_pop, w_dup2, w_ieq, w_zeq, w_ine, w_zne, w_ilt, w_zlt, w_ige, w_zge, w_igt, w_zgt, w_ile, w_zle, w_cut, w_tsw, zsw, w_iret, w_zret, w_lret, w_vret, w_nret, w_getI, w_getJ, w_getR, w_putI, w_putZ, w_putJ, w_iald, w_zald, w_iast, w_zast, w_alen, w_sI, w_sJ, w_sV, w_vI, w_vJ, w_vV, w_tI, w_mmax, w_mmin, w_mabs, w_lmax, w_acopy, gL, sL, kl_i, kl_l, kl_r, kl_s, kl_m, qI_i, qJ_l, qA_r, qA_s, pI_i, pJ_l, pA_r, pS_s, pM_m, pV_v, c1_i, c1_r, c1_s, c1_m, cS_0, cS_i, cS_l, cS_r, cS_s, cS_m, pN, z_rc_r, zE1, zE2, zE3, true_and, and_true, Nat.zero_add, Nat.reduceAdd, Nat.reduceLeDiff, true_or, or_true, hb.o, hb.fr7, hb.zf7, hb.wo]
      refine ⟨fun q => absurd q (by omega), fun _ => ?_⟩
      refine c_gdist hb q2 q3 hc ⟨g0, by omega⟩ fun D3 d1 d2 d3 => ?_
      have next := fun best' hb' => ih (g + 1) best' (zi (sD (sOp a) g c)) D3 (by omega) (by omega) (by omega) (q1.trans d1) d2 d3 hb'
      have split1 : ∀ g' : Int, g' < g + 1 → g' = g ∨ g' < g := fun g' q => by omega
      refine ⟨fun q => ⟨⟨by omega, by omega⟩, next best ?_⟩, fun q => ⟨fun r => ⟨⟨by omega, by omega⟩, next _ ?_⟩, fun r => ⟨fun r2 => ⟨⟨by omega, by omega⟩, next best ?_⟩, fun r2 => ⟨⟨by omega, by omega⟩, next _ ?_⟩⟩⟩⟩
      · rcases q4 with ⟨h1, h2⟩ | ⟨h1, ⟨g', e0, e1, e2⟩, h3⟩
        · refine Or.inl ⟨h1, fun g' e0 e1 => ?_⟩
          rcases split1 g' e1 with e | e
          · rw [e]; exact q
          · exact h2 g' e0 e
        · refine Or.inr ⟨h1, ⟨g', e0, by omega, e2⟩, fun g'' f0 f1 => ?_⟩
          rcases split1 g'' f1 with e | e
          · rw [e]; exact Or.inl q
          · exact h3 g'' f0 e
      · refine Or.inr ⟨by omega, ⟨g, g0, by omega, rfl⟩, fun g'' f0 f1 => ?_⟩
        rcases split1 g'' f1 with e | e
        · rw [e]; exact Or.inr (Int.le_refl _)
        · rcases q4 with ⟨h1, h2⟩ | ⟨h1, -, h3⟩
          · exact Or.inl (h2 g'' f0 e)
          · omega
      · rcases q4 with ⟨h1, h2⟩ | ⟨h1, ⟨g', e0, e1, e2⟩, h3⟩
        · omega
        · refine Or.inr ⟨h1, ⟨g', e0, by omega, e2⟩, fun g'' f0 f1 => ?_⟩
          rcases split1 g'' f1 with e | e
          · rw [e]; exact Or.inr r2
          · exact h3 g'' f0 e
      · rcases q4 with ⟨h1, h2⟩ | ⟨h1, ⟨g', e0, e1, e2⟩, h3⟩
        · omega
        · refine Or.inr ⟨by omega, ⟨g, g0, by omega, rfl⟩, fun g'' f0 f1 => ?_⟩
          rcases split1 g'' f1 with e | e
          · rw [e]; exact Or.inr (Int.le_refl _)
          · have := h3 g'' f0 e
            dsimp only at this ⊢
            omega
  refine e_X0_stepsToGround ?_
  simp only [tX0_stepsToGround_0, w_ic, w_lc, w_lds, w_ild, w_lld, w_ald, w_ist, w_lst, w_ast, w_iinc, w_iadd, w_isub, w_imul, w_idiv, w_irem, w_iand, w_ior, w_ixor, w_ishl, w_ishr, w_iushr, w_ineg, w_ladd, w_lsub, w_lmul, w_ldiv, w_lrem, w_lcmp, w_i2l, w_l2i, w_dup, w_pop, w_dup2, w_ieq, w_zeq, w_ine, w_zne, w_ilt, w_zlt, w_ige, w_zge, w_igt, w_zgt, w_ile, w_zle, w_cut, w_tsw, zsw, w_iret, w_zret, w_lret, w_vret, w_nret, w_getI, w_getJ, w_getR, w_putI, w_putZ, w_putJ, w_iald, w_zald, w_iast, w_zast, w_alen, w_sI, w_sJ, w_sV, w_vI, w_vJ, w_vV, w_tI, w_mmax, w_mmin, w_mabs, w_lmax, w_acopy, gL, sL, kl_i, kl_l, kl_r, kl_s, kl_m, qI_i, qJ_l, qA_r, qA_s, pI_i, pJ_l, pA_r, pS_s, pM_m, pV_v, c1_i, c1_r, c1_s, c1_m, cS_0, cS_i, cS_l, cS_r, cS_s, cS_m, pN, z_rc_r, zE1, zE2, zE3, true_and, and_true, Nat.zero_add, Nat.reduceAdd, Nat.reduceLeDiff, true_or, or_true, hb.o]
  refine c_layWays hb h fun D1 h1 h2 h3 => ?_
  exact loop _ 0 (-1) _ D1 rfl (by omega) (by omega) h1 h2 h3 (Or.inl ⟨rfl, fun g g0 g1 => by omega⟩)
def sDn (a : Int → Int) (f z : Int) : Int := zsum (a 0).toNat (fun k => if k ≠ z ∧ a (10 + k) = 1 ∧ a (4 + k) / 4 = f then 1 else 0)
theorem c_downOn {M : Int} {b : Nat} {a : Int → Int} {f z : Int} {D : Mem} {P : Int → Mem → Prop} (hb : zBk b) (h : BK M D b a) (hP : P (sDn a f z) D) : zC miX0_laddersDownOn [zr b, zi f, zi z] D P := by
  have c1 := h.2.2.1.n0
  have loop : ∀ (s : Nat) (i : Int), (a 0 - i).toNat = s → 0 ≤ i → i ≤ a 0 → zW miX0_laddersDownOn P 5 [zr b, zi f, zi z, zi (zsum i.toNat (fun k => if k ≠ z ∧ a (10 + k) = 1 ∧ a (4 + k) / 4 = f then 1 else 0)), zi i] D := by
    intro s
    induction s with
    | zero =>
      intro i hs i0 i1
      refine sX0_laddersDownOn_5 _ _ _ _ _ ?_
      simp only [tX0_laddersDownOn_5, w_ic, w_lc, w_lds, w_ild, w_lld, w_ald, w_ist, w_lst, w_ast, w_iinc, w_iadd, w_isub, w_imul, w_idiv, w_irem, w_iand, w_ior, w_ixor, w_ishl, w_ishr, w_iushr, w_ineg, w_ladd, w_lsub, w_lmul, w_ldiv, w_lrem, w_lcmp, w_i2l, w_l2i, w_dup, w_pop, w_dup2, w_ieq, w_zeq, w_ine, w_zne, w_ilt, w_zlt, w_ige, w_zge, w_igt, w_zgt, w_ile, w_zle, w_cut, w_tsw, zsw, w_iret, w_zret, w_lret, w_vret, w_nret, w_getI, w_getJ, w_getR, w_putI, w_putZ, w_putJ, w_iald, w_zald, w_iast, w_zast, w_alen, w_sI, w_sJ, w_sV, w_vI, w_vJ, w_vV, w_tI, w_mmax, w_mmin, w_mabs, w_lmax, w_acopy, gL, sL, kl_i, kl_l, kl_r, kl_s, kl_m, qI_i, qJ_l, qA_r, qA_s, pI_i, pJ_l, pA_r, pS_s, pM_m, pV_v, c1_i, c1_r, c1_s, c1_m, cS_0, cS_i, cS_l, cS_r, cS_s, cS_m, pN, z_rc_r, zE1, zE2, zE3, true_and, and_true, Nat.zero_add, Nat.reduceAdd, Nat.reduceLeDiff, true_or, or_true, hb.o, hb.fr0, hb.zf0, hb.r0.o]
      refine c_lsize hb h ⟨fun _ => ?_, fun q => absurd (by omega) q⟩
      rw [show i = a 0 by omega]
      exact hP
    | succ s ih =>
      intro i hs i0 i1
      have zs := zsum_s (f := fun k => if k ≠ z ∧ a (10 + k) = 1 ∧ a (4 + k) / 4 = f then (1 : Int) else 0) i0
      have zb : 0 ≤ zsum i.toNat (fun k => if k ≠ z ∧ a (10 + k) = 1 ∧ a (4 + k) / 4 = f then (1 : Int) else 0) ∧ zsum i.toNat (fun k => if k ≠ z ∧ a (10 + k) = 1 ∧ a (4 + k) / 4 = f then (1 : Int) else 0) ≤ (i.toNat : Int) * 1 := zsum_b _ (fun k _ _ => by split <;> omega)
      have nx := ih (i + 1) (by omega) (by omega) (by omega)
      rw [zs] at nx
      have no : ¬ (i ≠ z ∧ a (10 + i) = 1 ∧ a (4 + i) / 4 = f) → zW miX0_laddersDownOn P 5 [zr b, zi f, zi z, zi (zsum i.toNat (fun k => if k ≠ z ∧ a (10 + k) = 1 ∧ a (4 + k) / 4 = f then 1 else 0)), zi (i + 1)] D := by
        intro q
        rw [if_neg q, Int.add_zero] at nx
        exact nx
      have hl := h.2.2.1.w0.2 i i0 (by omega)
      refine sX0_laddersDownOn_5 _ _ _ _ _ ?_
      simp only [tX0_laddersDownOn_5, w_ic, w_lc, w_lds, w_ild, w_lld, w_ald, w_ist, w_lst, w_ast, w_iinc, w_iadd, w_isub, w_imul, w_idiv, w_irem, w_iand, w_ior, w_ixor, w_ishl, w_ishr, w_iushr, w_ineg, w_ladd, w_lsub, w_lmul, w_ldiv, w_lrem, w_lcmp, w_i2l, w_l2i, w_dup, w_pop, w_dup2, w_ieq, w_zeq, w_ine, w_zne, w_ilt, w_zlt, w_ige, w_zge, w_igt, w_zgt, w_ile, w_zle, w_cut, w_tsw, zsw, w_iret, w_zret, w_lret, w_vret, w_nret, w_getI, w_getJ, w_getR, w_putI, w_putZ, w_putJ, w_iald, w_zald, w_iast, w_zast, w_alen, w_sI, w_sJ, w_sV, w_vI, w_vJ, w_vV, w_tI, w_mmax, w_mmin, w_mabs, w_lmax, w_acopy, gL, sL, kl_i, kl_l, kl_r, kl_s, kl_m, qI_i, qJ_l, qA_r, qA_s, pI_i, pJ_l, pA_r, pS_s, pM_m, pV_v, c1_i, c1_r, c1_s, c1_m, cS_0, cS_i, cS_l, cS_r, cS_s, cS_m, pN, z_rc_r, zE1, zE2, zE3, true_and, and_true, Nat.zero_add, Nat.reduceAdd, Nat.reduceLeDiff, true_or, or_true, hb.o, hb.fr0, hb.zf0, hb.r0.o]
      refine c_lsize hb h ⟨fun q => absurd q (by omega), fun _ => ⟨fun q => ⟨⟨by omega, by omega⟩, no fun w => w.1 q⟩, fun q => ?_⟩⟩
      refine c_lget hb h i0 (by omega) (by omega) (by omega) ?_
      rw [show 4 + 6 * 1 + i = 10 + i by omega]
      refine ⟨fun q2 => ⟨⟨by omega, by omega⟩, no fun w => q2 w.2.1⟩, fun q2 => ?_⟩
      refine c_lget hb h i0 (by omega) (by omega) (by omega) ?_
      rw [show 4 + 6 * 0 + i = 4 + i by omega]
      refine c_floorOf hl.1.1 ?_
      refine ⟨fun q3 => ⟨⟨by omega, by omega⟩, no fun w => q3 w.2.2⟩, fun q3 => ⟨⟨by omega, by omega⟩, ⟨by omega, by omega⟩, ?_⟩⟩
      rw [if_pos ⟨q, Decidable.not_not.mp q2, Decidable.not_not.mp q3⟩] at nx
      exact nx
  refine e_X0_laddersDownOn ?_
  simp only [tX0_laddersDownOn_0, w_ic, w_lc, w_lds, w_ild, w_lld, w_ald, w_ist, w_lst, w_ast, w_iinc, w_iadd, w_isub, w_imul, w_idiv, w_irem, w_iand, w_ior, w_ixor, w_ishl, w_ishr, w_iushr, w_ineg, w_ladd, w_lsub, w_lmul, w_ldiv, w_lrem, w_lcmp, w_i2l, w_l2i, w_dup, w_pop, w_dup2, w_ieq, w_zeq, w_ine, w_zne, w_ilt, w_zlt, w_ige, w_zge, w_igt, w_zgt, w_ile, w_zle, w_cut, w_tsw, zsw, w_iret, w_zret, w_lret, w_vret, w_nret, w_getI, w_getJ, w_getR, w_putI, w_putZ, w_putJ, w_iald, w_zald, w_iast, w_zast, w_alen, w_sI, w_sJ, w_sV, w_vI, w_vJ, w_vV, w_tI, w_mmax, w_mmin, w_mabs, w_lmax, w_acopy, gL, sL, kl_i, kl_l, kl_r, kl_s, kl_m, qI_i, qJ_l, qA_r, qA_s, pI_i, pJ_l, pA_r, pS_s, pM_m, pV_v, c1_i, c1_r, c1_s, c1_m, cS_0, cS_i, cS_l, cS_r, cS_s, cS_m, pN, z_rc_r, zE1, zE2, zE3, true_and, and_true, Nat.zero_add, Nat.reduceAdd, Nat.reduceLeDiff, true_or, or_true, hb.o]
  exact loop _ 0 rfl (by omega) c1.1
