/-! ===== 25: a Back recalls, passes, traces; what is counted ===== -/
theorem BK.eqv {M M' : Int} {D : Mem} {b : Nat} {a a' : Int → Int} (h : BK M D b a) (hw : WA M' a') (e : ∀ j, (j < 4 ∨ 46 ≤ j) → a' j = a j) (eL : ∀ k c, 0 ≤ k → k < a 0 → 0 ≤ c → c < 2 → a' (4 + 6 * c + k) = a (4 + 6 * c + k)) (eG : ∀ k c, 0 ≤ k → k < a 1 → 0 ≤ c → c < 5 → a' (16 + 6 * c + k) = a (16 + 6 * c + k)) : BK M' D b a' :=
  h.mk' (fun _ _ => ⟨rfl, rfl⟩) (ZB.mk' (zPc.of h.2.1.l rfl rfl (e 0 (by omega)) eL) (zPc.of h.2.1.g rfl rfl (e 1 (by omega)) eG) (h.2.1.w.of rfl rfl h.2.2.1.n2.2 fun j hj => e j (by omega)) (by rw [e 3 (by omega)]; exact h.2.1.m) (h.2.1.s.of rfl rfl h.2.2.1.n4.2 fun j hj => e j (by omega)) (h.2.1.n.of rfl rfl h.2.2.1.n5.2 fun j hj => e j (by omega)) (h.2.1.k.of rfl rfl h.2.2.1.n6.2 fun j hj => e j (by omega)) (h.2.1.p.of h.2.2.1 rfl rfl (e 0 (by omega)) (e 1 (by omega)) fun j _ _ => e j (by omega))) hw (fun _ _ _ => rfl)
theorem sAtset_wa {M : Int} {a : Int → Int} {k x : Int} (h : WA M a) (k0 : 0 ≤ k) (k1 : k < a 1) (hx : inC x) : WA M (zA a (34 + k) x) := by
  have n0 := h.n1
  have n : ∀ j, j ≠ 34 + k → zA a (34 + k) x j = a j := fun j q => zA_n q
  have f2 := n 2 (by omega)
  have f1 := n 1 (by omega)
  have f0 := n 0 (by omega)
  refine WA.mk' (h.w0.of fun j hj => n j (by omega)) ⟨by omega, fun i i0 i1 => ?_⟩ (h.w2.of fun j hj => n j (by omega)) (by rw [n 3 (by omega)]; exact h.n3) (h.w4.of (by omega) fun j hj => n j (by omega)) (h.w5.of (by omega) fun j hj => n j (by omega)) (h.w6.of (by omega) fun j hj => n j (by omega)) (by rw [f0, f1]; exact h.w7.of h.n0.2 h.n1.2 fun j hj => n j (by omega))
  rw [f1] at i1
  rw [n (16 + i) (by omega), n (22 + i) (by omega), n (28 + i) (by omega), n (40 + i) (by omega)]
  have := h.w1.2 i i0 i1
  refine ⟨this.1, this.2.1, this.2.2.1, ?_, this.2.2.2.2⟩
  by_cases e : i = k
  · rw [e, zA_s]; exact hx
  · rw [n _ (by omega)]; exact this.2.2.2.1
def sRc (a : Int → Int) (i k : Int) : Int → Int := fun j => if j = 3 then a (102 + 19 * a 120) else if 34 ≤ j ∧ j < 34 + i then a (75 + 19 * a 120 + j) else if 40 ≤ j ∧ j < 40 + i then a (75 + 19 * a 120 + j) else if 10 ≤ j ∧ j < 10 + k then a (93 + 19 * a 120 + j) else a j
theorem sRc_n {a : Int → Int} {i k j : Int} (hi : i ≤ 6) (hk : k ≤ 6) (h : j ≠ 3) (h1 : j < 10 ∨ 16 ≤ j) (h2 : j < 34 ∨ 46 ≤ j) : sRc a i k j = a j := by
  unfold sRc
  rw [if_neg h, if_neg (by omega), if_neg (by omega), if_neg (by omega)]
theorem sRc_0 {a : Int → Int} : zA a 3 (a (102 + 19 * a 120)) = sRc a 0 0 := by
  funext j
  simp only [zA, sRc]
  repeat' split
  all_goals first | rfl | (exfalso; omega) | (congr 1; omega)
theorem sRc_g {a : Int → Int} {i : Int} (i0 : 0 ≤ i) (i1 : i < 6) : zA (zA (sRc a i 0) (34 + i) (a (109 + 19 * a 120 + i))) (40 + i) (a (115 + 19 * a 120 + i)) = sRc a (i + 1) 0 := by
  funext j
  simp only [zA, sRc]
  repeat' split
  all_goals first | rfl | (exfalso; omega) | (congr 1; omega)
theorem sRc_l {a : Int → Int} {i k : Int} (i0 : 0 ≤ i) (i1 : i ≤ 6) (k0 : 0 ≤ k) (k1 : k < 6) : zA (sRc a i k) (10 + k) (a (103 + 19 * a 120 + k)) = sRc a i (k + 1) := by
  funext j
  simp only [zA, sRc]
  repeat' split
  all_goals first | rfl | (exfalso; omega) | (congr 1; omega)
theorem c_recall {M : Int} {b : Nat} {a : Int → Int} {D : Mem} {P : Int → Mem → Prop} (hb : zBk b) (h : BK M D b a) (h1 : 0 < a 120) (hP : ∀ D', Fr b (b + 22) D D' → BK M D' b (sUndo a) → P 0 D') : zC miX0_recall [zr b] D P := by
  have c0 := h.2.2.1.n0
  have c1 := h.2.2.1.n1
  have c7 := h.2.2.1.n7
  have hu := h.2.2.1.w7.2 (a 120 - 1) (by omega) (by omega)
  rw [show 121 + 19 * (a 120 - 1) = 102 + 19 * a 120 by omega, show 122 + 19 * (a 120 - 1) = 103 + 19 * a 120 by omega, show 128 + 19 * (a 120 - 1) = 109 + 19 * a 120 by omega, show 134 + 19 * (a 120 - 1) = 115 + 19 * a 120 by omega] at hu
  have lad : ∀ (m : Nat) (k : Int) (D2 : Mem), (a 0 - k).toNat = m → 0 ≤ k → k ≤ a 0 → Fr b (b + 22) D D2 → BK M D2 b (sRc a (a 1) k) → zW miX0_recall P 85 [zr b, zi (a 120 - 1), zi k] D2 := by
    intro m
    induction m with
    | zero =>
      intro k D2 hm k0 k1 q1 q2
      have n := fun j p q r => sRc_n (a := a) (i := a 1) (k := k) (j := j) c1.2 (by omega) p q r
      refine sX0_recall_85 _ _ _ _ _ ?_
      simp only [tX0_recall_85, w_ic, w_lc, w_lds, w_ild, w_lld, w_ald, w_ist, w_lst, w_ast, w_iinc, w_iadd, w_isub, w_imul, w_idiv, w_irem, w_iand, w_ior, w_ixor, w_ishl, w_ishr, w_iushr, w_ineg, w_ladd, w_lsub, w_lmul, w_ldiv, w_lrem, w_lcmp, w_i2l, w_l2i, w_dup, w_pop, w_dup2, w_ieq, w_zeq, w_ine, w_zne, w_ilt, w_zlt, w_ige, w_zge, w_igt, w_zgt, w_ile, w_zle, w_cut, w_tsw, zsw, w_iret, w_zret, w_lret, w_vret, w_nret, w_getI, w_getJ, w_getR, w_putI, w_putZ, w_putJ, w_iald, w_zald, w_iast, w_zast, w_alen, w_sI, w_sJ, w_sV, w_vI, w_vJ, w_vV, w_tI, w_mmax, w_mmin, w_mabs, w_lmax, w_acopy, gL, sL, kl_i, kl_l, kl_r, kl_s, kl_m, qI_i, qJ_l, qA_r, qA_s, pI_i, pJ_l, pA_r, pS_s, pM_m, pV_v, c1_i, c1_r, c1_s, c1_m, cS_0, cS_i, cS_l, cS_r, cS_s, cS_m, pN, z_rc_r, zE1, zE2, zE3, true_and, and_true, Nat.zero_add, Nat.reduceAdd, Nat.reduceLeDiff, true_or, or_true, hb.o, hb.fr0, hb.zf0, hb.r0.o, hb.fr6, hb.zf6, hb.r6.o]
      refine c_lsize hb q2 ?_
      rw [n 0 (by omega) (by omega) (by omega)]
      refine ⟨fun _ => ?_, fun q => absurd (by omega) q⟩
      have e120 := q2.2.1.p.1
      rw [n 120 (by omega) (by omega) (by omega)] at e120
      refine c_Rows_dropLast hb.r6 (by omega) (by omega) ?_
      rw [e120, show max 0 (a 120 - 1) = a 120 - 1 by omega]
      refine hP _ (q1.trans (Fr.up (by omega) (by omega))) ?_
      have ek : k = a 0 := by omega
      -- first the sizes, then what no one sees
      have m1 : BK M (zU D2 (b + 19) 3 (a 120 - 1)) b (zA (sRc a (a 1) k) 120 (a 120 - 1)) := by
        have nn : ∀ j, j ≠ 120 → zA (sRc a (a 1) k) 120 (a 120 - 1) j = sRc a (a 1) k j := fun j q => zA_n q
        have hw : WA M (zA (sRc a (a 1) k) 120 (a 120 - 1)) := by
          have w := q2.2.2.1
          refine WA.mk' (w.w0.of fun j hj => nn j (by omega)) (w.w1.of fun j hj => nn j (by omega)) (w.w2.of fun j hj => nn j (by omega)) (by rw [nn 3 (by omega)]; exact w.n3) (w.w4.of (by rw [nn 2 (by omega)]; omega) fun j hj => nn j (by omega)) (w.w5.of (by rw [nn 1 (by omega)]; omega) fun j hj => nn j (by omega)) (w.w6.of (by rw [nn 2 (by omega)]; omega) fun j hj => nn j (by omega)) ⟨by rw [zA_s]; omega, fun u u0 u1 => ?_⟩
          rw [zA_s] at u1
          have e0 := n 0 (by omega) (by omega) (by omega)
          have e1 := n 1 (by omega) (by omega) (by omega)
          have := w.w7.2 u u0 (by rw [n 120 (by omega) (by omega) (by omega)]; omega)
          rw [nn 0 (by omega), nn 1 (by omega)]
          refine ⟨by rw [nn _ (by omega)]; exact this.1, fun k k0 k1 => ?_, fun i i0 i1 => ?_⟩
          · rw [nn _ (by omega)]; exact this.2.1 k k0 k1
          · rw [nn _ (by omega), nn _ (by omega)]; exact this.2.2 i i0 i1
        refine q2.mk' (fun o ho => zU_rw3 ho) (ZB.mk' (q2.2.1.l.of (zU_ne (by omega)) (zU_ne (by omega)) q2.2.2.1.n0.2 fun j hj => nn j (by omega)) (q2.2.1.g.of (zU_ne (by omega)) (zU_ne (by omega)) q2.2.2.1.n1.2 fun j hj => nn j (by omega)) (q2.2.1.w.of (zU_ne (by omega)) (zU_ne (by omega)) q2.2.2.1.n2.2 fun j hj => nn j (by omega)) (by rw [zU_o (by omega), nn 3 (by omega)]; exact q2.2.1.m) (q2.2.1.s.of (zU_ne (by omega)) (zU_ne (by omega)) q2.2.2.1.n4.2 fun j hj => nn j (by omega)) (q2.2.1.n.of (zU_ne (by omega)) (zU_ne (by omega)) q2.2.2.1.n5.2 fun j hj => nn j (by omega)) (q2.2.1.k.of (zU_ne (by omega)) (zU_ne (by omega)) q2.2.2.1.n6.2 fun j hj => nn j (by omega)) ?_) hw (fun q q0 q1 => zU_ne (by omega))
        refine ⟨by rw [zU_s, zA_s], fun u u0 u1 => ?_⟩
        rw [zA_s] at u1
        have e0 := n 0 (by omega) (by omega) (by omega)
        have e1 := n 1 (by omega) (by omega) (by omega)
        have hp := q2.2.1.p.2 u u0 (by rw [n 120 (by omega) (by omega) (by omega)]; omega)
        rw [zU_ne (by omega), nn 0 (by omega), nn 1 (by omega)]
        refine ⟨by rw [nn _ (by omega)]; exact hp.1, fun i i0 i1 => ?_, fun k k0 k1 => ?_⟩
        · rw [nn _ (by omega), nn _ (by omega)]; exact hp.2.1 i i0 i1
        · rw [nn _ (by omega)]; exact hp.2.2 k k0 k1
      refine m1.eqv (sUndo_wa h.2.2.1 h1) (fun j hj => ?_) (fun k' c k0' k1' d0 d1 => ?_) (fun k' c k0' k1' d0 d1 => ?_)
      · simp only [sUndo, zA, sRc]
        repeat' split
        all_goals first | rfl | (exfalso; omega) | (congr 1; omega)
      · rw [zA_n (by omega), n 0 (by omega) (by omega) (by omega)] at k1'
        simp only [sUndo, zA, sRc]
        repeat' split
        all_goals first | rfl | (exfalso; omega) | (congr 1; omega)
      · rw [zA_n (by omega), n 1 (by omega) (by omega) (by omega)] at k1'
        simp only [sUndo, zA, sRc]
        repeat' split
        all_goals first | rfl | (exfalso; omega) | (congr 1; omega)
    | succ m ih =>
      intro k D2 hm k0 k1 q1 q2
      have n := fun j p q r => sRc_n (a := a) (i := a 1) (k := k) (j := j) c1.2 (by omega) p q r
      have e0 := n 0 (by omega) (by omega) (by omega)
      have e120 := n 120 (by omega) (by omega) (by omega)
      refine sX0_recall_85 _ _ _ _ _ ?_
      simp only [tX0_recall_85, w_ic, w_lc, w_lds, w_ild, w_lld, w_ald, w_ist, w_lst, w_ast, w_iinc, w_iadd, w_isub, w_imul, w_idiv, w_irem, w_iand, w_ior, w_ixor, w_ishl, w_ishr, w_iushr, w_ineg, w_ladd, w_lsub, w_lmul, w_ldiv, w_lrem, w_lcmp, w_i2l, w_l2i, w_dup, w_pop, w_dup2, w_ieq, w_zeq, w_ine, w_zne, w_ilt, w_zlt, w_ige, w_zge, w_igt, w_zgt, w_ile, w_zle, w_cut, w_tsw, zsw, w_iret, w_zret, w_lret, w_vret, w_nret, w_getI, w_getJ, w_getR, w_putI, w_putZ, w_putJ, w_iald, w_zald, w_iast, w_zast, w_alen, w_sI, w_sJ, w_sV, w_vI, w_vJ, w_vV, w_tI, w_mmax, w_mmin, w_mabs, w_lmax, w_acopy, gL, sL, kl_i, kl_l, kl_r, kl_s, kl_m, qI_i, qJ_l, qA_r, qA_s, pI_i, pJ_l, pA_r, pS_s, pM_m, pV_v, c1_i, c1_r, c1_s, c1_m, cS_0, cS_i, cS_l, cS_r, cS_s, cS_m, pN, z_rc_r, zE1, zE2, zE3, true_and, and_true, Nat.zero_add, Nat.reduceAdd, Nat.reduceLeDiff, true_or, or_true, hb.o, hb.fr0, hb.zf0, hb.r0.o, hb.fr6, hb.zf6, hb.r6.o]
      refine c_lsize hb q2 ?_
      rw [e0]
      refine ⟨fun q => absurd q (by omega), fun _ => ⟨⟨by omega, by omega⟩, ?_⟩⟩
      refine c_pget hb q2 (by omega) (by omega) (by omega) (by omega) ?_
      rw [(q2.2.1.p.2 (a 120 - 1) (by omega) (by omega)).2.2 k k0 (by omega), n _ (by omega) (by omega) (by omega), show 122 + 19 * (a 120 - 1) + k = 103 + 19 * a 120 + k by omega]
      have e10 : 4 + 6 * 1 + k = 10 + k := by omega
      refine c_lset hb q2 k0 (by omega) (by omega) (by omega) (by rw [e10]; exact sDraw_wa q2.2.2.1 k0 (by omega) (hu.2.1 k k0 (by omega))) fun D3 d1 d2 => ?_
      rw [e10, sRc_l c1.1 c1.2 k0 (by omega)] at d2
      exact ⟨⟨by omega, by omega⟩, ih (k + 1) D3 (by omega) (by omega) (by omega) (q1.trans d1) d2⟩
  have goe : ∀ (m : Nat) (i : Int) (D2 : Mem), (a 1 - i).toNat = m → 0 ≤ i → i ≤ a 1 → Fr b (b + 22) D D2 → BK M D2 b (sRc a i 0) → zW miX0_recall P 25 [zr b, zi (a 120 - 1), zi i] D2 := by
    intro m
    induction m with
    | zero =>
      intro i D2 hm k0 k1 q1 q2
      have n := fun j p q r => sRc_n (a := a) (i := i) (k := 0) (j := j) (by omega) (by omega) p q r
      refine sX0_recall_25 _ _ _ _ _ ?_
      simp only [tX0_recall_25, w_ic, w_lc, w_lds, w_ild, w_lld, w_ald, w_ist, w_lst, w_ast, w_iinc, w_iadd, w_isub, w_imul, w_idiv, w_irem, w_iand, w_ior, w_ixor, w_ishl, w_ishr, w_iushr, w_ineg, w_ladd, w_lsub, w_lmul, w_ldiv, w_lrem, w_lcmp, w_i2l, w_l2i, w_dup, w_pop, w_dup2, w_ieq, w_zeq, w_ine, w_zne, w_ilt, w_zlt, w_ige, w_zge, w_igt, w_zgt, w_ile, w_zle, w_cut, w_tsw, zsw, w_iret, w_zret, w_lret, w_vret, w_nret, w_getI, w_getJ, w_getR, w_putI, w_putZ, w_putJ, w_iald, w_zald, w_iast, w_zast, w_alen, w_sI, w_sJ, w_sV, w_vI, w_vJ, w_vV, w_tI, w_mmax, w_mmin, w_mabs, w_lmax, w_acopy, gL, sL, kl_i, kl_l, kl_r, kl_s, kl_m, qI_i, qJ_l, qA_r, qA_s, pI_i, pJ_l, pA_r, pS_s, pM_m, pV_v, c1_i, c1_r, c1_s, c1_m, cS_0, cS_i, cS_l, cS_r, cS_s, cS_m, pN, z_rc_r, zE1, zE2, zE3, true_and, and_true, Nat.zero_add, Nat.reduceAdd, Nat.reduceLeDiff, true_or, or_true, hb.o, hb.fr1, hb.zf1, hb.r1.o, hb.fr6, hb.zf6, hb.r6.o]
      refine c_gsize hb q2 ?_
      rw [n 1 (by omega) (by omega) (by omega)]
      refine ⟨fun _ => ?_, fun q => absurd (by omega) q⟩
      have ei : i = a 1 := by omega
      rw [ei] at q2
      exact lad _ 0 D2 rfl (by omega) c0.1 q1 q2
    | succ m ih =>
      intro i D2 hm k0 k1 q1 q2
      have n := fun j p q r => sRc_n (a := a) (i := i) (k := 0) (j := j) (by omega) (by omega) p q r
      have e1 := n 1 (by omega) (by omega) (by omega)
      have e120 := n 120 (by omega) (by omega) (by omega)
      refine sX0_recall_25 _ _ _ _ _ ?_
      simp only [tX0_recall_25, w_ic, w_lc, w_lds, w_ild, w_lld, w_ald, w_ist, w_lst, w_ast, w_iinc, w_iadd, w_isub, w_imul, w_idiv, w_irem, w_iand, w_ior, w_ixor, w_ishl, w_ishr, w_iushr, w_ineg, w_ladd, w_lsub, w_lmul, w_ldiv, w_lrem, w_lcmp, w_i2l, w_l2i, w_dup, w_pop, w_dup2, w_ieq, w_zeq, w_ine, w_zne, w_ilt, w_zlt, w_ige, w_zge, w_igt, w_zgt, w_ile, w_zle, w_cut, w_tsw, zsw, w_iret, w_zret, w_lret, w_vret, w_nret, w_getI, w_getJ, w_getR, w_putI, w_putZ, w_putJ, w_iald, w_zald, w_iast, w_zast, w_alen, w_sI, w_sJ, w_sV, w_vI, w_vJ, w_vV, w_tI, w_mmax, w_mmin, w_mabs, w_lmax, w_acopy, gL, sL, kl_i, kl_l, kl_r, kl_s, kl_m, qI_i, qJ_l, qA_r, qA_s, pI_i, pJ_l, pA_r, pS_s, pM_m, pV_v, c1_i, c1_r, c1_s, c1_m, cS_0, cS_i, cS_l, cS_r, cS_s, cS_m, pN, z_rc_r, zE1, zE2, zE3, true_and, and_true, Nat.zero_add, Nat.reduceAdd, Nat.reduceLeDiff, true_or, or_true, hb.o, hb.fr1, hb.zf1, hb.r1.o, hb.fr6, hb.zf6, hb.r6.o]
      refine c_gsize hb q2 ?_
      rw [e1]
      refine ⟨fun q => absurd q (by omega), fun _ => ⟨⟨by omega, by omega⟩, ?_⟩⟩
      refine c_pget hb q2 (by omega) (by omega) (by omega) (by omega) ?_
      rw [((q2.2.1.p.2 (a 120 - 1) (by omega) (by omega)).2.1 i k0 (by omega)).1, n _ (by omega) (by omega) (by omega), show 128 + 19 * (a 120 - 1) + i = 109 + 19 * a 120 + i by omega]
      have e34 : 16 + 6 * 3 + i = 34 + i := by omega
      have e40 : 16 + 6 * 4 + i = 40 + i := by omega
      refine c_gset hb q2 k0 (by omega) (by omega) (by omega) (by rw [e34]; exact sAtset_wa q2.2.2.1 k0 (by omega) (hu.2.2 i k0 (by omega)).1) fun D3 d1 d2 => ?_
      rw [e34] at d2
      refine ⟨⟨by omega, by omega⟩, ?_⟩
      have g1 : zA (sRc a i 0) (34 + i) (a (109 + 19 * a 120 + i)) 1 = a 1 := by rw [zA_n (by omega)]; exact e1
      have g120 : zA (sRc a i 0) (34 + i) (a (109 + 19 * a 120 + i)) 120 = a 120 := by rw [zA_n (by omega)]; exact e120
      refine c_pget hb d2 (by omega) (by omega) (by omega) (by omega) ?_
      rw [((d2.2.1.p.2 (a 120 - 1) (by omega) (by omega)).2.1 i k0 (by omega)).2, zA_n (by omega), n _ (by omega) (by omega) (by omega), show 134 + 19 * (a 120 - 1) + i = 115 + 19 * a 120 + i by omega]
      refine c_gset hb d2 k0 (by omega) (by omega) (by omega) (by rw [e40]; exact sTurn_wa d2.2.2.1 k0 (by omega) (hu.2.2 i k0 (by omega)).2) fun D4 d3 d4 => ?_
      rw [e40, sRc_g k0 (by omega)] at d4
      exact ⟨⟨by omega, by omega⟩, ih (i + 1) D4 (by omega) (by omega) (by omega) ((q1.trans d1).trans d3) d4⟩
  refine e_X0_recall ?_
  simp only [tX0_recall_0, w_ic, w_lc, w_lds, w_ild, w_lld, w_ald, w_ist, w_lst, w_ast, w_iinc, w_iadd, w_isub, w_imul, w_idiv, w_irem, w_iand, w_ior, w_ixor, w_ishl, w_ishr, w_iushr, w_ineg, w_ladd, w_lsub, w_lmul, w_ldiv, w_lrem, w_lcmp, w_i2l, w_l2i, w_dup, w_pop, w_dup2, w_ieq, w_zeq, w_ine, w_zne, w_ilt, w_zlt, w_ige, w_zge, w_igt, w_zgt, w_ile, w_zle, w_cut, w_tsw, zsw, w_iret, w_zret, w_lret, w_vret, w_nret, w_getI, w_getJ, w_getR, w_putI, w_putZ, w_putJ, w_iald, w_zald, w_iast, w_zast, w_alen, w_sI, w_sJ, w_sV, w_vI, w_vJ, w_vV, w_tI, w_mmax, w_mmin, w_mabs, w_lmax, w_acopy, gL, sL, kl_i, kl_l, kl_r, kl_s, kl_m, qI_i, qJ_l, qA_r, qA_s, pI_i, pJ_l, pA_r, pS_s, pM_m, pV_v, c1_i, c1_r, c1_s, c1_m, cS_0, cS_i, cS_l, cS_r, cS_s, cS_m, pN, z_rc_r, zE1, zE2, zE3, true_and, and_true, Nat.zero_add, Nat.reduceAdd, Nat.reduceLeDiff, true_or, or_true, hb.o, hb.m, hb.fr6, hb.zf6, hb.r6.o]
  refine c_Rows_size hb.r6 ?_
  rw [h.2.1.p.1]
  refine ⟨⟨by omega, by omega⟩, ?_⟩
  refine c_pget hb h (by omega) (by omega) (by omega) (by omega) ?_
  have hp := (h.2.1.p.2 (a 120 - 1) (by omega) (by omega)).1
  rw [show (a 120 - 1) * 19 + 0 = (a 120 - 1) * 19 by omega, hp, show 121 + 19 * (a 120 - 1) = 102 + 19 * a 120 by omega]
  have m1 := h.mset (M' := M) (x := a (102 + 19 * a 120)) (sMin_wa h.2.2.1 hu.1 (by omega))
  rw [sRc_0] at m1
  exact goe _ 0 _ rfl (by omega) c1.1 (Fr.up (by omega) (by omega)) m1
/-- in the midst of a minute -/
noncomputable def sMid (a : Int → Int) (i : Int) : Int → Int := fun j => if 34 ≤ j ∧ j < 34 + i then sNa a (j - 34) else a j
theorem sMid_n {a : Int → Int} {i j : Int} (hi : i ≤ 6) (h : j < 34 ∨ 34 + i ≤ j) : sMid a i j = a j := by
  unfold sMid
  rw [if_neg (by omega)]
theorem sMid_s {a : Int → Int} {i : Int} (i0 : 0 ≤ i) : zA (sMid a i) (34 + i) (sNa a i) = sMid a (i + 1) := by
  funext j
  unfold zA sMid
  by_cases e : j = 34 + i
  · subst e
    rw [if_pos rfl, if_pos ⟨by omega, by omega⟩, show 34 + i - 34 = i by omega]
  · rw [if_neg e]
    by_cases q : 34 ≤ j ∧ j < 34 + i
    · rw [if_pos q, if_pos (by omega)]
    · rw [if_neg q, if_neg (by omega)]
