/-! ===== 57: the model reads: items, the whole text ===== -/
def yIt (M : Int) (D s : Mem) (p : Int) (r : IR) (P : Int → Mem → Prop) : Prop :=
  (r.1 = 1 → ∀ D', yF D D' → D' 124 7 = r.2.2 → yR D' 819 r.2.1 → WA (M + 99) r.2.1 → r.2.1 120 = 0 → (p < r.2.2 ∧ r.2.2 ≤ s 4 0) → P 1 D') ∧
  (r.1 = 0 → ∀ D', yF D D' → D' 124 8 = r.2.2 → (0 ≤ r.2.2 ∧ r.2.2 ≤ s 4 0) → P 0 D')
theorem yIt.z {M : Int} {D s : Mem} {p : Int} {r : IR} {P : Int → Mem → Prop} (h : yIt M D s p r P) : yIt M D s p r (fun x D' => (x = 0 ∨ x = 1) ∧ P x D') :=
  ⟨fun w D' a1 a2 a3 a4 a5 a6 => ⟨Or.inr rfl, h.1 w D' a1 a2 a3 a4 a5 a6⟩, fun w D' a1 a2 a3 => ⟨Or.inl rfl, h.2 w D' a1 a2 a3⟩⟩
theorem isNum_b {s : Mem} {p lo hi : Int} (hl : 0 ≤ s 4 0 ∧ s 4 0 ≤ 150) (p0 : 0 ≤ p) (p1 : p ≤ s 4 0) (h : isNum s p lo hi) : p ≤ tSt s p ∧ tSt s p < tEn s p ∧ tEn s p ≤ s 4 0 := by
  have b := tSt_b hl p0 p1
  have e := tEn_b hl p0 p1
  have := e.2.2.1 (by rw [h.1]; decide)
  omega
theorem r819 : rOK 819 := Or.inr (Or.inl rfl)
theorem m_readsLadder {M : Int} {D s : Mem} {a : Int → Int} {p st : Int} {P : Int → Mem → Prop} (hT : yTx D s) (hR : yR D 819 a) (hw : WA M a) (ha : a 120 = 0) (h7 : D 124 7 = p) (h8 : D 124 8 = st) (p0 : 0 ≤ p) (p1 : p ≤ s 4 0) (s0 : 0 ≤ st) (s1 : st ≤ p) (hP : yIt M D s p (rLad s a p st) P) : zC miX6_readsLadder [zr 124] D P := by
  have hl := hT.1.1
  have b := tSt_b hl p0 p1
  have n0 := hw.n0
  have e0 : D 125 819 = a 0 := hR 0 (by decide) (by decide)
  unfold rLad at hP
  refine e_X6_readsLadder ?_
  simp only [tX6_readsLadder_0, w_ic, w_lc, w_lds, w_ild, w_lld, w_ald, w_ist, w_lst, w_ast, w_iinc, w_iadd, w_isub, w_imul, w_idiv, w_irem, w_iand, w_ior, w_ixor, w_ishl, w_ishr, w_iushr, w_ineg, w_ladd, w_lsub, w_lmul, w_ldiv, w_lrem, w_lcmp, w_i2l, w_l2i, w_dup, w_pop, w_dup2, w_ieq, w_zeq, w_ine, w_zne, w_ilt, w_zlt, w_ige, w_zge, w_igt, w_zgt, w_ile, w_zle, w_cut, w_tsw, zsw, w_iret, w_zret, w_lret, w_vret, w_nret, w_getI, w_getJ, w_getR, w_putI, w_putZ, w_putJ, w_iald, w_zald, w_iast, w_zast, w_alen, w_sI, w_sJ, w_sV, w_vI, w_vJ, w_vV, w_tI, w_mmax, w_mmin, w_mabs, w_lmax, w_acopy, gL, sL, kl_i, kl_l, kl_r, kl_s, kl_m, qI_i, qJ_l, qA_r, qA_s, pI_i, pJ_l, pA_r, pS_s, pM_m, pV_v, c1_i, c1_r, c1_s, c1_m, cS_0, cS_i, cS_l, cS_r, cS_s, cS_m, pN, z_rc_r, zE1, zE2, zE3, true_and, and_true, Nat.zero_add, Nat.reduceAdd, Nat.reduceLeDiff, true_or, or_true, Int.reduceLE, Int.reduceLT, zcmp_l, zcmp_g, zcmp_e, zcmp_le, mo, mf0, mz0, mf1, mz1, mf2, mz2, mf6, mz6, mf10, mz10, mf11, mz11, mf12, mz12, mf13, mz13, mf14, mz14, mf16, mz16, mf17, mz17, mf18, mz18, mf19, mz19, mi3, mi7, mi8, mi9, mi15, mi4, mi5, mi20, ma125, mn125, ma126, mn126, ma127, mn127, ma128, mn128, ma129, mn129, ma130, mn130, ma131, mn131, ma132, mn132, ma133, mn133, ma134, mn134, ma135, mn135, ma136, mn136, ma137, mn137]
  rw [e0]
  refine ⟨fun q => ?_, fun q => ?_⟩
  · rw [cIf_t q] at hP
    exact hP.2 rfl D yF.rfl h8 ⟨s0, by show st ≤ _; omega⟩
  · rw [cIf_f q] at hP
    refine m_takesNumber hT h7 p0 p1 (fun hn D' f e7 e8 e9 => ⟨fun w => absurd w (by decide), fun _ => ?_⟩) (fun hn D' f e8 => ⟨fun _ => ?_, fun w => absurd rfl w⟩)
    · rw [e9]
      have hb := isNum_b hl p0 p1 hn
      have hR' := f.r hR
      refine m_hasLadder r819 hR'.q n0 (fun q2 => ⟨fun w => absurd w (by decide), fun _ => ?_⟩) (fun q2 => ⟨fun _ => ?_, fun w => absurd rfl w⟩)
      · rw [cIf_f (fun w => q2 w.2)] at hP
        exact hP.2 rfl D' f.f e8 ⟨by show 0 ≤ tSt s p; omega, b.2.1⟩
      · rw [cIf_t ⟨hn, q2⟩] at hP
        rw [e9]
        refine m_addsLadder r819 hR' (by omega) fun D2 f2 hR2 => ?_
        have h0 := hn.2.2.1
        have h1 := hn.2.2.2
        refine hP.1 rfl D2 (f.f.trans f2.s) (by rw [f2.1 124 (by decide)]; exact e7) hR2 ((sAddL_wa hw (by omega) ⟨h0, by omega⟩ ha).up (by omega)) ?_ ⟨by show p < tEn s p; omega, hb.2.2⟩
        show sAddL a (tNm s p) 120 = 0
        rw [sAddL_n n0.1 (by omega) (by omega) (by omega) (by omega)]
        exact ha
    · rw [cIf_f (fun w => hn w.1)] at hP
      exact hP.2 rfl D' f.f e8 ⟨by show 0 ≤ tSt s p; omega, b.2.1⟩
theorem m_readsTurn {M : Int} {D s : Mem} {a : Int → Int} {p : Int} {P : Int → Mem → Prop} (hT : yTx D s) (hR : yR D 819 a) (hw : WA M a) (ha : a 120 = 0) (h7 : D 124 7 = p) (p0 : 0 ≤ p) (p1 : p ≤ s 4 0) (hP : yIt M D s p (rTur s a p) P) : zC miX6_readsTurn [zr 124] D P := by
  have hl := hT.1.1
  have b := tSt_b hl p0 p1
  have n1 := hw.n1
  have e1 : D 125 820 = a 1 := hR 1 (by decide) (by decide)
  unfold rTur at hP
  refine e_X6_readsTurn ?_
  simp only [tX6_readsTurn_0, w_ic, w_lc, w_lds, w_ild, w_lld, w_ald, w_ist, w_lst, w_ast, w_iinc, w_iadd, w_isub, w_imul, w_idiv, w_irem, w_iand, w_ior, w_ixor, w_ishl, w_ishr, w_iushr, w_ineg, w_ladd, w_lsub, w_lmul, w_ldiv, w_lrem, w_lcmp, w_i2l, w_l2i, w_dup, w_pop, w_dup2, w_ieq, w_zeq, w_ine, w_zne, w_ilt, w_zlt, w_ige, w_zge, w_igt, w_zgt, w_ile, w_zle, w_cut, w_tsw, zsw, w_iret, w_zret, w_lret, w_vret, w_nret, w_getI, w_getJ, w_getR, w_putI, w_putZ, w_putJ, w_iald, w_zald, w_iast, w_zast, w_alen, w_sI, w_sJ, w_sV, w_vI, w_vJ, w_vV, w_tI, w_mmax, w_mmin, w_mabs, w_lmax, w_acopy, gL, sL, kl_i, kl_l, kl_r, kl_s, kl_m, qI_i, qJ_l, qA_r, qA_s, pI_i, pJ_l, pA_r, pS_s, pM_m, pV_v, c1_i, c1_r, c1_s, c1_m, cS_0, cS_i, cS_l, cS_r, cS_s, cS_m, pN, z_rc_r, zE1, zE2, zE3, true_and, and_true, Nat.zero_add, Nat.reduceAdd, Nat.reduceLeDiff, true_or, or_true, Int.reduceLE, Int.reduceLT, zcmp_l, zcmp_g, zcmp_e, zcmp_le, mo, mf0, mz0, mf1, mz1, mf2, mz2, mf6, mz6, mf10, mz10, mf11, mz11, mf12, mz12, mf13, mz13, mf14, mz14, mf16, mz16, mf17, mz17, mf18, mz18, mf19, mz19, mi3, mi7, mi8, mi9, mi15, mi4, mi5, mi20, ma125, mn125, ma126, mn126, ma127, mn127, ma128, mn128, ma129, mn129, ma130, mn130, ma131, mn131, ma132, mn132, ma133, mn133, ma134, mn134, ma135, mn135, ma136, mn136, ma137, mn137]
  rw [e1]
  refine ⟨⟨by omega, by omega⟩, m_takesNumber hT h7 p0 p1 (fun hn D' f e7 e8 e9 => ⟨fun _ => ?_, fun w => absurd (by decide) w⟩) (fun hn D' f e8 => ⟨fun w => absurd rfl w, fun _ => ?_⟩)⟩
  · rw [e9]
    have hb := isNum_b hl p0 p1 hn
    have hR' := f.r hR
    have h0 := hn.2.2.1
    have h1 := hn.2.2.2
    have ev := hR' (40 + tNm s p) (by omega) (by omega)
    have hz := (hw.w1.2 _ h0 (by omega)).2.2.2.2
    have bz : 0 ≤ a (40 + tNm s p) ∧ a (40 + tNm s p) ≤ 1 := by rcases hz with e | e <;> rw [e] <;> decide
    rw [cIf_t hn] at hP
    rw [show 859 + tNm s p = 819 + (40 + tNm s p) by omega, ev]
    repeat' (with_reducible apply And.intro)
    all_goals first | omega | exact ⟨by omega, by omega⟩ | skip
    · refine hP.1 rfl _ (f.f.trans (yF.u5 (by omega))) (by rw [zU_o (by decide)]; exact e7) (hR'.up rfl) ((sTurn_wa hw h0 (by omega) (z01_f hz)).up (by omega)) ?_ ⟨by show p < tEn s p; omega, hb.2.2⟩
      show zA a (40 + tNm s p) (1 - a (40 + tNm s p)) 120 = 0
      rw [zA_n (by omega)]
      exact ha
  · rw [cIf_f hn] at hP
    exact hP.2 rfl D' f.f e8 ⟨by show 0 ≤ tSt s p; omega, b.2.1⟩
theorem m_readsDraw {M : Int} {D s : Mem} {a : Int → Int} {p : Int} {P : Int → Mem → Prop} (hT : yTx D s) (hR : yR D 819 a) (hw : WA M a) (ha : a 120 = 0) (h7 : D 124 7 = p) (p0 : 0 ≤ p) (p1 : p ≤ s 4 0) (hP : yIt M D s p (rDra s a p) P) : zC miX6_readsDraw [zr 124] D P := by
  have hl := hT.1.1
  have b := tSt_b hl p0 p1
  have n1 := hw.n0
  have e1 : D 125 819 = a 0 := hR 0 (by decide) (by decide)
  unfold rDra at hP
  refine e_X6_readsDraw ?_
  simp only [tX6_readsDraw_0, w_ic, w_lc, w_lds, w_ild, w_lld, w_ald, w_ist, w_lst, w_ast, w_iinc, w_iadd, w_isub, w_imul, w_idiv, w_irem, w_iand, w_ior, w_ixor, w_ishl, w_ishr, w_iushr, w_ineg, w_ladd, w_lsub, w_lmul, w_ldiv, w_lrem, w_lcmp, w_i2l, w_l2i, w_dup, w_pop, w_dup2, w_ieq, w_zeq, w_ine, w_zne, w_ilt, w_zlt, w_ige, w_zge, w_igt, w_zgt, w_ile, w_zle, w_cut, w_tsw, zsw, w_iret, w_zret, w_lret, w_vret, w_nret, w_getI, w_getJ, w_getR, w_putI, w_putZ, w_putJ, w_iald, w_zald, w_iast, w_zast, w_alen, w_sI, w_sJ, w_sV, w_vI, w_vJ, w_vV, w_tI, w_mmax, w_mmin, w_mabs, w_lmax, w_acopy, gL, sL, kl_i, kl_l, kl_r, kl_s, kl_m, qI_i, qJ_l, qA_r, qA_s, pI_i, pJ_l, pA_r, pS_s, pM_m, pV_v, c1_i, c1_r, c1_s, c1_m, cS_0, cS_i, cS_l, cS_r, cS_s, cS_m, pN, z_rc_r, zE1, zE2, zE3, true_and, and_true, Nat.zero_add, Nat.reduceAdd, Nat.reduceLeDiff, true_or, or_true, Int.reduceLE, Int.reduceLT, zcmp_l, zcmp_g, zcmp_e, zcmp_le, mo, mf0, mz0, mf1, mz1, mf2, mz2, mf6, mz6, mf10, mz10, mf11, mz11, mf12, mz12, mf13, mz13, mf14, mz14, mf16, mz16, mf17, mz17, mf18, mz18, mf19, mz19, mi3, mi7, mi8, mi9, mi15, mi4, mi5, mi20, ma125, mn125, ma126, mn126, ma127, mn127, ma128, mn128, ma129, mn129, ma130, mn130, ma131, mn131, ma132, mn132, ma133, mn133, ma134, mn134, ma135, mn135, ma136, mn136, ma137, mn137]
  rw [e1]
  refine ⟨⟨by omega, by omega⟩, m_takesNumber hT h7 p0 p1 (fun hn D' f e7 e8 e9 => ⟨fun _ => ?_, fun w => absurd (by decide) w⟩) (fun hn D' f e8 => ⟨fun w => absurd rfl w, fun _ => ?_⟩)⟩
  · rw [e9]
    have hb := isNum_b hl p0 p1 hn
    have hR' := f.r hR
    have h0 := hn.2.2.1
    have h1 := hn.2.2.2
    have ev := hR' (10 + tNm s p) (by omega) (by omega)
    have hz := (hw.w0.2 _ h0 (by omega)).2
    have bz : 0 ≤ a (10 + tNm s p) ∧ a (10 + tNm s p) ≤ 1 := by rcases hz with e | e <;> rw [e] <;> decide
    rw [cIf_t hn] at hP
    rw [show 829 + tNm s p = 819 + (10 + tNm s p) by omega, ev]
    repeat' (with_reducible apply And.intro)
    all_goals first | omega | exact ⟨by omega, by omega⟩ | skip
    · refine hP.1 rfl _ (f.f.trans (yF.u5 (by omega))) (by rw [zU_o (by decide)]; exact e7) (hR'.up rfl) ((sDraw_wa hw h0 (by omega) (z01_f hz)).up (by omega)) ?_ ⟨by show p < tEn s p; omega, hb.2.2⟩
      show zA a (10 + tNm s p) (1 - a (10 + tNm s p)) 120 = 0
      rw [zA_n (by omega)]
      exact ha
  · rw [cIf_f hn] at hP
    exact hP.2 rfl D' f.f e8 ⟨by show 0 ≤ tSt s p; omega, b.2.1⟩
theorem m_readsGoer {M : Int} {D s : Mem} {a : Int → Int} {p st : Int} {P : Int → Mem → Prop} (hT : yTx D s) (hR : yR D 819 a) (hw : WA M a) (ha : a 120 = 0) (h7 : D 124 7 = p) (h8 : D 124 8 = st) (p0 : 0 ≤ p) (p1 : p ≤ s 4 0) (s0 : 0 ≤ st) (s1 : st ≤ p) (hP : yIt M D s p (rGoe s a p st) P) : zC miX6_readsGoer [zr 124] D P := by
  have hl := hT.1.1
  have b := tSt_b hl p0 p1
  have n1 := hw.n1
  have e0 : D 125 820 = a 1 := hR 1 (by decide) (by decide)
  unfold rGoe at hP
  refine e_X6_readsGoer ?_
  simp only [tX6_readsGoer_0, w_ic, w_lc, w_lds, w_ild, w_lld, w_ald, w_ist, w_lst, w_ast, w_iinc, w_iadd, w_isub, w_imul, w_idiv, w_irem, w_iand, w_ior, w_ixor, w_ishl, w_ishr, w_iushr, w_ineg, w_ladd, w_lsub, w_lmul, w_ldiv, w_lrem, w_lcmp, w_i2l, w_l2i, w_dup, w_pop, w_dup2, w_ieq, w_zeq, w_ine, w_zne, w_ilt, w_zlt, w_ige, w_zge, w_igt, w_zgt, w_ile, w_zle, w_cut, w_tsw, zsw, w_iret, w_zret, w_lret, w_vret, w_nret, w_getI, w_getJ, w_getR, w_putI, w_putZ, w_putJ, w_iald, w_zald, w_iast, w_zast, w_alen, w_sI, w_sJ, w_sV, w_vI, w_vJ, w_vV, w_tI, w_mmax, w_mmin, w_mabs, w_lmax, w_acopy, gL, sL, kl_i, kl_l, kl_r, kl_s, kl_m, qI_i, qJ_l, qA_r, qA_s, pI_i, pJ_l, pA_r, pS_s, pM_m, pV_v, c1_i, c1_r, c1_s, c1_m, cS_0, cS_i, cS_l, cS_r, cS_s, cS_m, pN, z_rc_r, zE1, zE2, zE3, true_and, and_true, Nat.zero_add, Nat.reduceAdd, Nat.reduceLeDiff, true_or, or_true, Int.reduceLE, Int.reduceLT, zcmp_l, zcmp_g, zcmp_e, zcmp_le, mo, mf0, mz0, mf1, mz1, mf2, mz2, mf6, mz6, mf10, mz10, mf11, mz11, mf12, mz12, mf13, mz13, mf14, mz14, mf16, mz16, mf17, mz17, mf18, mz18, mf19, mz19, mi3, mi7, mi8, mi9, mi15, mi4, mi5, mi20, ma125, mn125, ma126, mn126, ma127, mn127, ma128, mn128, ma129, mn129, ma130, mn130, ma131, mn131, ma132, mn132, ma133, mn133, ma134, mn134, ma135, mn135, ma136, mn136, ma137, mn137]
  rw [e0]
  refine ⟨fun q => ?_, fun q => ?_⟩
  · rw [cIf_t q] at hP
    exact hP.2 rfl D yF.rfl h8 ⟨s0, by show st ≤ _; omega⟩
  rw [cIf_f q] at hP
  refine m_takesNumber hT h7 p0 p1 (fun hn D1 f1 e7 e8 e9 => ⟨fun _ => ?_, fun w => absurd (by decide) w⟩) (fun hn D1 f1 e8 => ⟨fun w => absurd rfl w, fun _ => ?_⟩)
  · rw [cIf_t hn] at hP
    rw [e9]
    have hb1 := isNum_b hl p0 p1 hn
    have b2 := tSt_b hl (p := tEn s p) (by omega) hb1.2.2
    refine m_takesNumber (hT.k f1) e7 (by omega) hb1.2.2 (fun hn2 D2 f2 g7 g8 g9 => ⟨fun _ => ?_, fun w => absurd (by decide) w⟩) (fun hn2 D2 f2 g8 => ⟨fun w => absurd rfl w, fun _ => ?_⟩)
    · rw [cIf_t hn2] at hP
      rw [g9]
      have hb2 := isNum_b hl (by omega) hb1.2.2 hn2
      have b3 := tSt_b hl (p := tEn s (tEn s p)) (by omega) hb2.2.2
      refine m_takesNumber (hT.k (f1.trans f2)) g7 (by omega) hb2.2.2 (fun hn3 D3 f3 k7 k8 k9 => ⟨fun _ => ?_, fun w => absurd (by decide) w⟩) (fun hn3 D3 f3 k8 => ⟨fun w => absurd rfl w, fun _ => ?_⟩)
      · rw [cIf_t hn3] at hP
        rw [k9]
        have hb3 := isNum_b hl (by omega) hb2.2.2 hn3
        have f4 := f1.trans (f2.trans f3)
        refine m_addsGoer r819 (f4.r hR) (by omega) fun D4 f5 hR4 => ?_
        refine hP.1 rfl D4 (f4.f.trans f5.s) (by rw [f5.1 124 (by decide)]; exact k7) hR4 ((sAddG_wa hw (by omega) ⟨hn.2.2.1, by have := hn.2.2.2; omega⟩ ⟨hn2.2.2.1, by have := hn2.2.2.2; omega⟩ ⟨hn3.2.2.1, by have := hn3.2.2.2; omega⟩ ha).up (by omega)) ?_ ⟨by show p < tEn s (tEn s (tEn s p)); omega, hb3.2.2⟩
        show sAddG a _ _ _ 120 = 0
        rw [sAddG_n (by omega) (by omega) (by omega) (by omega) (by omega) (by omega)]
        exact ha
      · rw [cIf_f hn3] at hP
        exact hP.2 rfl D3 (f1.trans (f2.trans f3)).f k8 ⟨by show 0 ≤ tSt s _; omega, b3.2.1⟩
    · rw [cIf_f hn2] at hP
      exact hP.2 rfl D2 (f1.trans f2).f g8 ⟨by show 0 ≤ tSt s _; omega, b2.2.1⟩
  · rw [cIf_f hn] at hP
    exact hP.2 rfl D1 f1.f e8 ⟨by show 0 ≤ tSt s p; omega, b.2.1⟩
theorem m_readsWindow {M : Int} {D s : Mem} {a : Int → Int} {p st : Int} {P : Int → Mem → Prop} (hT : yTx D s) (hR : yR D 819 a) (hw : WA M a) (ha : a 120 = 0) (h7 : D 124 7 = p) (h8 : D 124 8 = st) (p0 : 0 ≤ p) (p1 : p ≤ s 4 0) (s0 : 0 ≤ st) (s1 : st ≤ p) (hP : yIt M D s p (rWin s a p st) P) : zC miX6_readsWindow [zr 124] D P := by
  have hl := hT.1.1
  have b := tSt_b hl p0 p1
  have n2 := hw.n2
  have e0 : D 125 821 = a 2 := hR 2 (by decide) (by decide)
  unfold rWin at hP
  refine e_X6_readsWindow ?_
  simp only [tX6_readsWindow_0, w_ic, w_lc, w_lds, w_ild, w_lld, w_ald, w_ist, w_lst, w_ast, w_iinc, w_iadd, w_isub, w_imul, w_idiv, w_irem, w_iand, w_ior, w_ixor, w_ishl, w_ishr, w_iushr, w_ineg, w_ladd, w_lsub, w_lmul, w_ldiv, w_lrem, w_lcmp, w_i2l, w_l2i, w_dup, w_pop, w_dup2, w_ieq, w_zeq, w_ine, w_zne, w_ilt, w_zlt, w_ige, w_zge, w_igt, w_zgt, w_ile, w_zle, w_cut, w_tsw, zsw, w_iret, w_zret, w_lret, w_vret, w_nret, w_getI, w_getJ, w_getR, w_putI, w_putZ, w_putJ, w_iald, w_zald, w_iast, w_zast, w_alen, w_sI, w_sJ, w_sV, w_vI, w_vJ, w_vV, w_tI, w_mmax, w_mmin, w_mabs, w_lmax, w_acopy, gL, sL, kl_i, kl_l, kl_r, kl_s, kl_m, qI_i, qJ_l, qA_r, qA_s, pI_i, pJ_l, pA_r, pS_s, pM_m, pV_v, c1_i, c1_r, c1_s, c1_m, cS_0, cS_i, cS_l, cS_r, cS_s, cS_m, pN, z_rc_r, zE1, zE2, zE3, true_and, and_true, Nat.zero_add, Nat.reduceAdd, Nat.reduceLeDiff, true_or, or_true, Int.reduceLE, Int.reduceLT, zcmp_l, zcmp_g, zcmp_e, zcmp_le, mo, mf0, mz0, mf1, mz1, mf2, mz2, mf6, mz6, mf10, mz10, mf11, mz11, mf12, mz12, mf13, mz13, mf14, mz14, mf16, mz16, mf17, mz17, mf18, mz18, mf19, mz19, mi3, mi7, mi8, mi9, mi15, mi4, mi5, mi20, ma125, mn125, ma126, mn126, ma127, mn127, ma128, mn128, ma129, mn129, ma130, mn130, ma131, mn131, ma132, mn132, ma133, mn133, ma134, mn134, ma135, mn135, ma136, mn136, ma137, mn137]
  rw [e0]
  refine ⟨fun q => ?_, fun q => ?_⟩
  · rw [cIf_t q] at hP
    exact hP.2 rfl D yF.rfl h8 ⟨s0, by show st ≤ _; omega⟩
  rw [cIf_f q] at hP
  refine m_takesNumber hT h7 p0 p1 (fun hn D1 f1 e7 e8 e9 => ⟨fun _ => ?_, fun w => absurd (by decide) w⟩) (fun hn D1 f1 e8 => ⟨fun w => absurd rfl w, fun _ => ?_⟩)
  · rw [cIf_t hn] at hP
    rw [e9]
    have hb1 := isNum_b hl p0 p1 hn
    have b2 := tSt_b hl (p := tEn s p) (by omega) hb1.2.2
    refine m_takesNumber (hT.k f1) e7 (by omega) hb1.2.2 (fun hn2 D2 f2 g7 g8 g9 => ⟨fun _ => ?_, fun w => absurd (by decide) w⟩) (fun hn2 D2 f2 g8 => ⟨fun w => absurd rfl w, fun _ => ?_⟩)
    · rw [cIf_t hn2] at hP
      rw [g9]
      have hb2 := isNum_b hl (by omega) hb1.2.2 hn2
      have f4 := f1.trans f2
      refine m_addsWindow r819 (f4.r hR) (by omega) fun D4 f5 hR4 => ?_
      refine hP.1 rfl D4 (f4.f.trans f5.s) (by rw [f5.1 124 (by decide)]; exact g7) hR4 ((sAddW_wa hw (by omega) ⟨hn.2.2.1, by have := hn.2.2.2; omega⟩ ⟨hn2.2.2.1, by have := hn2.2.2.2; omega⟩ ha).up (by omega)) ?_ ⟨by show p < tEn s (tEn s p); omega, hb2.2.2⟩
      show sAddW a _ _ 120 = 0
      rw [sAddW_n (by omega) (by omega) (by omega)]
      exact ha
    · rw [cIf_f hn2] at hP
      exact hP.2 rfl D2 (f1.trans f2).f g8 ⟨by show 0 ≤ tSt s _; omega, b2.2.1⟩
  · rw [cIf_f hn] at hP
    exact hP.2 rfl D1 f1.f e8 ⟨by show 0 ≤ tSt s p; omega, b.2.1⟩
theorem yQ.rr {D D' : Mem} {r : Int} {a b : Int → Int} (h : yR D r a) (f : ∀ j : Int, r + 54 ≤ j → D' 125 j = D 125 j) (hq : yQ D' r b) (hb : ∀ j, 54 ≤ j → b j = a j) : yR D' r b := by
  intro j p q
  by_cases g : j < 54
  · exact hq j p g
  · rw [hb j (by omega), f _ (by omega)]
    exact h j p q
theorem m_readsMinutes {M : Int} {D s : Mem} {a : Int → Int} {p : Int} {P : Int → Mem → Prop} (hM : M + 99 ≤ 9999) (hT : yTx D s) (hR : yR D 819 a) (hw : WA M a) (ha : a 120 = 0) (h7 : D 124 7 = p) (p0 : 0 ≤ p) (p1 : p ≤ s 4 0) (hP : yIt M D s p (rMin s a p) P) : zC miX6_readsMinutes [zr 124] D P := by
  have hl := hT.1.1
  have b := tSt_b hl p0 p1
  have n1 := hw.n1
  have n3 := hw.n3
  unfold rMin at hP
  refine e_X6_readsMinutes ?_
  simp only [tX6_readsMinutes_0, w_ic, w_lc, w_lds, w_ild, w_lld, w_ald, w_ist, w_lst, w_ast, w_iinc, w_iadd, w_isub, w_imul, w_idiv, w_irem, w_iand, w_ior, w_ixor, w_ishl, w_ishr, w_iushr, w_ineg, w_ladd, w_lsub, w_lmul, w_ldiv, w_lrem, w_lcmp, w_i2l, w_l2i, w_dup, w_pop, w_dup2, w_ieq, w_zeq, w_ine, w_zne, w_ilt, w_zlt, w_ige, w_zge, w_igt, w_zgt, w_ile, w_zle, w_cut, w_tsw, zsw, w_iret, w_zret, w_lret, w_vret, w_nret, w_getI, w_getJ, w_getR, w_putI, w_putZ, w_putJ, w_iald, w_zald, w_iast, w_zast, w_alen, w_sI, w_sJ, w_sV, w_vI, w_vJ, w_vV, w_tI, w_mmax, w_mmin, w_mabs, w_lmax, w_acopy, gL, sL, kl_i, kl_l, kl_r, kl_s, kl_m, qI_i, qJ_l, qA_r, qA_s, pI_i, pJ_l, pA_r, pS_s, pM_m, pV_v, c1_i, c1_r, c1_s, c1_m, cS_0, cS_i, cS_l, cS_r, cS_s, cS_m, pN, z_rc_r, zE1, zE2, zE3, true_and, and_true, Nat.zero_add, Nat.reduceAdd, Nat.reduceLeDiff, true_or, or_true, Int.reduceLE, Int.reduceLT, zcmp_l, zcmp_g, zcmp_e, zcmp_le, mo, mf0, mz0, mf1, mz1, mf2, mz2, mf6, mz6, mf10, mz10, mf11, mz11, mf12, mz12, mf13, mz13, mf14, mz14, mf16, mz16, mf17, mz17, mf18, mz18, mf19, mz19, mi3, mi7, mi8, mi9, mi15, mi4, mi5, mi20, ma125, mn125, ma126, mn126, ma127, mn127, ma128, mn128, ma129, mn129, ma130, mn130, ma131, mn131, ma132, mn132, ma133, mn133, ma134, mn134, ma135, mn135, ma136, mn136, ma137, mn137]
  refine m_takesNumber hT h7 p0 p1 (fun hn D1 f1 e7 e8 e9 => ⟨fun _ => ?_, fun w => absurd (by decide) w⟩) (fun hn D1 f1 e8 => ⟨fun w => absurd rfl w, fun _ => ?_⟩)
  · rw [cIf_t hn] at hP
    have hb1 := isNum_b hl p0 p1 hn
    have h0 := hn.2.2.1
    have h1 := hn.2.2.2
    have loop : ∀ (r k : Nat) (D2 : Mem), (tNm s p).toNat - k = r → k ≤ (tNm s p).toNat → yF D D2 → D2 124 7 = tEn s p → D2 124 9 = tNm s p → yR D2 819 (sPs k a) → zW miX6_readsMinutes P 14 [zr 124, zi k] D2 := by
      intro r
      induction r with
      | zero =>
        intro k D2 hr hk hf g7 g9 hR2
        have ek : k = (tNm s p).toNat := by omega
        have wk := sPs_wa (n := k) hw (by omega)
        have fin := hP.1 rfl D2 hf g7 (by rw [← ek]; exact hR2) (by rw [← ek]; exact wk.up (by omega)) (by show sPs (tNm s p).toNat a 120 = 0; rw [sPs_n (by omega) n1.2 (by omega)]; exact ha) ⟨by show p < tEn s p; omega, hb1.2.2⟩
        refine sX6_readsMinutes_14 _ _ _ _ _ ?_
        simp only [tX6_readsMinutes_14, w_ic, w_lc, w_lds, w_ild, w_lld, w_ald, w_ist, w_lst, w_ast, w_iinc, w_iadd, w_isub, w_imul, w_idiv, w_irem, w_iand, w_ior, w_ixor, w_ishl, w_ishr, w_iushr, w_ineg, w_ladd, w_lsub, w_lmul, w_ldiv, w_lrem, w_lcmp, w_i2l, w_l2i, w_dup, w_pop, w_dup2, w_ieq, w_zeq, w_ine, w_zne, w_ilt, w_zlt, w_ige, w_zge, w_igt, w_zgt, w_ile, w_zle, w_cut, w_tsw, zsw, w_iret, w_zret, w_lret, w_vret, w_nret, w_getI, w_getJ, w_getR, w_putI, w_putZ, w_putJ, w_iald, w_zald, w_iast, w_zast, w_alen, w_sI, w_sJ, w_sV, w_vI, w_vJ, w_vV, w_tI, w_mmax, w_mmin, w_mabs, w_lmax, w_acopy, gL, sL, kl_i, kl_l, kl_r, kl_s, kl_m, qI_i, qJ_l, qA_r, qA_s, pI_i, pJ_l, pA_r, pS_s, pM_m, pV_v, c1_i, c1_r, c1_s, c1_m, cS_0, cS_i, cS_l, cS_r, cS_s, cS_m, pN, z_rc_r, zE1, zE2, zE3, true_and, and_true, Nat.zero_add, Nat.reduceAdd, Nat.reduceLeDiff, true_or, or_true, Int.reduceLE, Int.reduceLT, zcmp_l, zcmp_g, zcmp_e, zcmp_le, mo, mf0, mz0, mf1, mz1, mf2, mz2, mf6, mz6, mf10, mz10, mf11, mz11, mf12, mz12, mf13, mz13, mf14, mz14, mf16, mz16, mf17, mz17, mf18, mz18, mf19, mz19, mi3, mi7, mi8, mi9, mi15, mi4, mi5, mi20, ma125, mn125, ma126, mn126, ma127, mn127, ma128, mn128, ma129, mn129, ma130, mn130, ma131, mn131, ma132, mn132, ma133, mn133, ma134, mn134, ma135, mn135, ma136, mn136, ma137, mn137]
        rw [g9]
        exact ⟨fun _ => fin, fun w => absurd (by omega) w⟩
      | succ r ih =>
        intro k D2 hr hk hf g7 g9 hR2
        have wk := sPs_wa (n := k) hw (by omega)
        have e3 : D2 125 822 = a 3 + k := by
          have := hR2 3 (by decide) (by decide)
          rw [sPs_3] at this
          exact this
        refine sX6_readsMinutes_14 _ _ _ _ _ ?_
        simp only [tX6_readsMinutes_14, w_ic, w_lc, w_lds, w_ild, w_lld, w_ald, w_ist, w_lst, w_ast, w_iinc, w_iadd, w_isub, w_imul, w_idiv, w_irem, w_iand, w_ior, w_ixor, w_ishl, w_ishr, w_iushr, w_ineg, w_ladd, w_lsub, w_lmul, w_ldiv, w_lrem, w_lcmp, w_i2l, w_l2i, w_dup, w_pop, w_dup2, w_ieq, w_zeq, w_ine, w_zne, w_ilt, w_zlt, w_ige, w_zge, w_igt, w_zgt, w_ile, w_zle, w_cut, w_tsw, zsw, w_iret, w_zret, w_lret, w_vret, w_nret, w_getI, w_getJ, w_getR, w_putI, w_putZ, w_putJ, w_iald, w_zald, w_iast, w_zast, w_alen, w_sI, w_sJ, w_sV, w_vI, w_vJ, w_vV, w_tI, w_mmax, w_mmin, w_mabs, w_lmax, w_acopy, gL, sL, kl_i, kl_l, kl_r, kl_s, kl_m, qI_i, qJ_l, qA_r, qA_s, pI_i, pJ_l, pA_r, pS_s, pM_m, pV_v, c1_i, c1_r, c1_s, c1_m, cS_0, cS_i, cS_l, cS_r, cS_s, cS_m, pN, z_rc_r, zE1, zE2, zE3, true_and, and_true, Nat.zero_add, Nat.reduceAdd, Nat.reduceLeDiff, true_or, or_true, Int.reduceLE, Int.reduceLT, zcmp_l, zcmp_g, zcmp_e, zcmp_le, mo, mf0, mz0, mf1, mz1, mf2, mz2, mf6, mz6, mf10, mz10, mf11, mz11, mf12, mz12, mf13, mz13, mf14, mz14, mf16, mz16, mf17, mz17, mf18, mz18, mf19, mz19, mi3, mi7, mi8, mi9, mi15, mi4, mi5, mi20, ma125, mn125, ma126, mn126, ma127, mn127, ma128, mn128, ma129, mn129, ma130, mn130, ma131, mn131, ma132, mn132, ma133, mn133, ma134, mn134, ma135, mn135, ma136, mn136, ma137, mn137]
        rw [g9, e3]
        refine ⟨fun w => absurd w (by omega), fun _ => ⟨fun w => absurd w (by omega), fun _ => ?_⟩⟩
        refine m_passes r819 hR2.q wk (by omega) fun D3 f3 q3 => ?_
        have wk1 := wk.n1
        exact ⟨⟨by omega, by omega⟩, ih (k + 1) D3 (by omega) (by omega) (hf.trans (f3.s (by decide))) (by rw [f3.1 124 (by decide) (by decide) (by decide) (by decide)]; exact g7) (by rw [f3.1 124 (by decide) (by decide) (by decide) (by decide)]; exact g9) (yQ.rr hR2 (fun j hj => f3.2 j (Or.inr hj)) q3 fun j hj => sPass_n (by omega) wk1.2 (by omega))⟩
    exact loop _ 0 D1 rfl (by omega) f1.f e7 e9 (f1.r hR)
  · rw [cIf_f hn] at hP
    exact hP.2 rfl D1 f1.f e8 ⟨by show 0 ≤ tSt s p; omega, b.2.1⟩
