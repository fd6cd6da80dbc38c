/-! ===== 49: the model: what was told; kinds; look, ask ===== -/
theorem m_sound {n k m x : Int} {s : Mem} (hW : WS n s) (hn : n < 1000000) : mOK miX6_sound [zr 124, zi k, zi m, zi x] s (r_sound s k m x) := by
  intro D P hM hP
  have w := hW.1.1
  have h := hM.1
  have c4 := w.n4
  unfold r_sound at hP
  have bad : ¬ ((0 ≤ k ∧ k < s 0 2) ∧ (0 ≤ m ∧ m ≤ 30) ∧ 1 ≤ x ∧ x ≤ 20) → zC miX6_bad [zr 124, zi (-2)] D P := by
    intro q
    rw [cIf_f q] at hP
    exact m_bad hM hW hn hP
  refine e_X6_sound ?_
  simp only [tX6_sound_0, w_ic, w_lc, w_lds, w_ild, w_lld, w_ald, w_ist, w_lst, w_ast, w_iinc, w_iadd, w_isub, w_imul, w_idiv, w_irem, w_iand, w_ior, w_ixor, w_ishl, w_ishr, w_iushr, w_ineg, w_ladd, w_lsub, w_lmul, w_ldiv, w_lrem, w_lcmp, w_i2l, w_l2i, w_dup, w_pop, w_dup2, w_ieq, w_zeq, w_ine, w_zne, w_ilt, w_zlt, w_ige, w_zge, w_igt, w_zgt, w_ile, w_zle, w_cut, w_tsw, zsw, w_iret, w_zret, w_lret, w_vret, w_nret, w_getI, w_getJ, w_getR, w_putI, w_putZ, w_putJ, w_iald, w_zald, w_iast, w_zast, w_alen, w_sI, w_sJ, w_sV, w_vI, w_vJ, w_vV, w_tI, w_mmax, w_mmin, w_mabs, w_lmax, w_acopy, gL, sL, kl_i, kl_l, kl_r, kl_s, kl_m, qI_i, qJ_l, qA_r, qA_s, pI_i, pJ_l, pA_r, pS_s, pM_m, pV_v, c1_i, c1_r, c1_s, c1_m, cS_0, cS_i, cS_l, cS_r, cS_s, cS_m, pN, z_rc_r, zE1, zE2, zE3, true_and, and_true, Nat.zero_add, Nat.reduceAdd, Nat.reduceLeDiff, true_or, or_true, Int.reduceLE, Int.reduceLT, zcmp_l, zcmp_g, zcmp_e, zcmp_le, mo, mf0, mz0, mf1, mz1, mf2, mz2, mf6, mz6, mf10, mz10, mf11, mz11, mf12, mz12, mf13, mz13, mf14, mz14, mf16, mz16, mf17, mz17, mf18, mz18, mf19, mz19, mi3, mi7, mi8, mi9, mi15, mi4, mi5, mi20, ma125, mn125, ma126, mn126, ma127, mn127, ma128, mn128, ma129, mn129, ma130, mn130, ma131, mn131, ma132, mn132, ma133, mn133, ma134, mn134, ma135, mn135, ma136, mn136, ma137, mn137]
  refine m_isWindow h w.n2 (fun q => ⟨fun w => absurd w (by decide), fun _ => ?_⟩) (fun q => ⟨fun _ => bad fun w => q w.1, fun w => absurd rfl w⟩)
  refine m_in (fun q2 => ⟨fun w => absurd w (by decide), fun _ => ?_⟩) (fun q2 => ⟨fun _ => bad fun w => q2 w.2.1, fun w => absurd rfl w⟩)
  refine m_in (fun q3 => ⟨fun _ => ?_, fun w => absurd (by decide) w⟩) (fun q3 => ⟨fun w => absurd rfl w, fun _ => bad fun w => q3 w.2.2⟩)
  rw [cIf_t ⟨q, q2, q3⟩] at hP
  rw [h.z (by omega) (by omega)]
  refine ⟨fun g => ?_, fun g => ?_⟩
  · rw [cIf_f g] at hP
    have g1 := h.up (k' := 55 + 3 * s 0 54) (k := 55 + 3 * s 0 54) (x := k) (by omega)
    have g2 := g1.up (k' := 55 + 3 * s 0 54 + 1) (k := 56 + 3 * s 0 54) (x := m) (by omega)
    have g3 := g2.up (k' := 55 + 3 * s 0 54 + 2) (k := 57 + 3 * s 0 54) (x := x) (by omega)
    have e3 := g3.z (j := 54) (by omega) (by omega)
    rw [zA_n (by omega), zA_n (by omega), zA_n (by omega)] at e3
    rw [e3, zU_s]
    repeat' (with_reducible apply And.intro)
    all_goals first | omega | exact ⟨by omega, by omega⟩ | skip
    have f : yE 0 D (zU (zU (zU (zU D 125 (55 + 3 * s 0 54) k) 125 (55 + 3 * s 0 54 + 1) m) 125 (55 + 3 * s 0 54 + 2) x) 125 54 (s 0 54 + 1)) := (yE.up (by omega) (by omega)).trans ((yE.up (by omega) (by omega)).trans ((yE.up (by omega) (by omega)).trans (yE.up (by omega) (by omega))))
    exact hP _ f.n.fr (hM.now f.n (g3.up (by omega)))
  · rw [cIf_t (Decidable.not_not.mp g)] at hP
    exact m_full hM hW hn hP
set_option maxRecDepth 20000 in
theorem m_note {n k f m x : Int} {s : Mem} (hW : WS n s) (hn : n < 1000000) : mOK miX6_note [zr 124, zi k, zi f, zi m, zi x] s (r_note s k f m x) := by
  intro D P hM hP
  have w := hW.1.1
  have h := hM.1
  have c4 := w.n5
  unfold r_note at hP
  have bad : ¬ ((0 ≤ k ∧ k < s 0 1) ∧ (0 ≤ f ∧ f ≤ 4) ∧ (0 ≤ m ∧ m ≤ 99) ∧ 0 ≤ x ∧ x ≤ 20) → zC miX6_bad [zr 124, zi (-2)] D P := by
    intro q
    rw [cIf_f q] at hP
    exact m_bad hM hW hn hP
  refine e_X6_note ?_
  simp only [tX6_note_0, w_ic, w_lc, w_lds, w_ild, w_lld, w_ald, w_ist, w_lst, w_ast, w_iinc, w_iadd, w_isub, w_imul, w_idiv, w_irem, w_iand, w_ior, w_ixor, w_ishl, w_ishr, w_iushr, w_ineg, w_ladd, w_lsub, w_lmul, w_ldiv, w_lrem, w_lcmp, w_i2l, w_l2i, w_dup, w_pop, w_dup2, w_ieq, w_zeq, w_ine, w_zne, w_ilt, w_zlt, w_ige, w_zge, w_igt, w_zgt, w_ile, w_zle, w_cut, w_tsw, zsw, w_iret, w_zret, w_lret, w_vret, w_nret, w_getI, w_getJ, w_getR, w_putI, w_putZ, w_putJ, w_iald, w_zald, w_iast, w_zast, w_alen, w_sI, w_sJ, w_sV, w_vI, w_vJ, w_vV, w_tI, w_mmax, w_mmin, w_mabs, w_lmax, w_acopy, gL, sL, kl_i, kl_l, kl_r, kl_s, kl_m, qI_i, qJ_l, qA_r, qA_s, pI_i, pJ_l, pA_r, pS_s, pM_m, pV_v, c1_i, c1_r, c1_s, c1_m, cS_0, cS_i, cS_l, cS_r, cS_s, cS_m, pN, z_rc_r, zE1, zE2, zE3, true_and, and_true, Nat.zero_add, Nat.reduceAdd, Nat.reduceLeDiff, true_or, or_true, Int.reduceLE, Int.reduceLT, zcmp_l, zcmp_g, zcmp_e, zcmp_le, mo, mf0, mz0, mf1, mz1, mf2, mz2, mf6, mz6, mf10, mz10, mf11, mz11, mf12, mz12, mf13, mz13, mf14, mz14, mf16, mz16, mf17, mz17, mf18, mz18, mf19, mz19, mi3, mi7, mi8, mi9, mi15, mi4, mi5, mi20, ma125, mn125, ma126, mn126, ma127, mn127, ma128, mn128, ma129, mn129, ma130, mn130, ma131, mn131, ma132, mn132, ma133, mn133, ma134, mn134, ma135, mn135, ma136, mn136, ma137, mn137]
  refine m_isGoer h w.n1 (fun q => ⟨fun w => absurd w (by decide), fun _ => ?_⟩) (fun q => ⟨fun _ => bad fun w => q w.1, fun w => absurd rfl w⟩)
  refine m_in (fun q1 => ⟨fun w => absurd w (by decide), fun _ => ?_⟩) (fun q1 => ⟨fun _ => bad fun w => q1 w.2.1, fun w => absurd rfl w⟩)
  refine m_in (fun q2 => ⟨fun w => absurd w (by decide), fun _ => ?_⟩) (fun q2 => ⟨fun _ => bad fun w => q2 w.2.2.1, fun w => absurd rfl w⟩)
  refine m_in (fun q3 => ⟨fun _ => ?_, fun w => absurd (by decide) w⟩) (fun q3 => ⟨fun w => absurd rfl w, fun _ => bad fun w => q3 w.2.2.2⟩)
  rw [cIf_t ⟨q, q1, q2, q3⟩] at hP
  rw [h.z (by omega) (by omega)]
  refine ⟨fun g => ?_, fun g => ?_⟩
  · rw [cIf_f g] at hP
    have g1 := h.up (k' := 71 + 4 * s 0 70) (k := 71 + 4 * s 0 70) (x := k) (by omega)
    have g2 := g1.up (k' := 71 + 4 * s 0 70 + 1) (k := 72 + 4 * s 0 70) (x := f) (by omega)
    have g3 := g2.up (k' := 71 + 4 * s 0 70 + 2) (k := 73 + 4 * s 0 70) (x := m) (by omega)
    have g4 := g3.up (k' := 71 + 4 * s 0 70 + 3) (k := 74 + 4 * s 0 70) (x := x) (by omega)
    have e4 := g4.z (j := 70) (by omega) (by omega)
    rw [zA_n (by omega), zA_n (by omega), zA_n (by omega), zA_n (by omega)] at e4
    rw [e4, zU_s]
    repeat' (with_reducible apply And.intro)
    all_goals first | omega | exact ⟨by omega, by omega⟩ | skip
    have fr : yE 0 D (zU (zU (zU (zU (zU D 125 (71 + 4 * s 0 70) k) 125 (71 + 4 * s 0 70 + 1) f) 125 (71 + 4 * s 0 70 + 2) m) 125 (71 + 4 * s 0 70 + 3) x) 125 70 (s 0 70 + 1)) := (yE.up (by omega) (by omega)).trans ((yE.up (by omega) (by omega)).trans ((yE.up (by omega) (by omega)).trans ((yE.up (by omega) (by omega)).trans (yE.up (by omega) (by omega)))))
    exact hP _ fr.n.fr (hM.now fr.n (g4.up (by omega)))
  · rw [cIf_t (Decidable.not_not.mp g)] at hP
    exact m_full hM hW hn hP
set_option maxRecDepth 20000 in
theorem m_mark {n k f m x : Int} {s : Mem} (hW : WS n s) (hn : n < 1000000) : mOK miX6_mark [zr 124, zi k, zi f, zi m, zi x] s (r_mark s k f m x) := by
  intro D P hM hP
  have w := hW.1.1
  have h := hM.1
  have c4 := w.n6
  unfold r_mark at hP
  have bad : ¬ ((0 ≤ k ∧ k < s 0 2) ∧ (0 ≤ f ∧ f ≤ 20) ∧ (0 ≤ m ∧ m ≤ 7) ∧ 0 ≤ x ∧ x ≤ 1) → zC miX6_bad [zr 124, zi (-2)] D P := by
    intro q
    rw [cIf_f q] at hP
    exact m_bad hM hW hn hP
  refine e_X6_mark ?_
  simp only [tX6_mark_0, w_ic, w_lc, w_lds, w_ild, w_lld, w_ald, w_ist, w_lst, w_ast, w_iinc, w_iadd, w_isub, w_imul, w_idiv, w_irem, w_iand, w_ior, w_ixor, w_ishl, w_ishr, w_iushr, w_ineg, w_ladd, w_lsub, w_lmul, w_ldiv, w_lrem, w_lcmp, w_i2l, w_l2i, w_dup, w_pop, w_dup2, w_ieq, w_zeq, w_ine, w_zne, w_ilt, w_zlt, w_ige, w_zge, w_igt, w_zgt, w_ile, w_zle, w_cut, w_tsw, zsw, w_iret, w_zret, w_lret, w_vret, w_nret, w_getI, w_getJ, w_getR, w_putI, w_putZ, w_putJ, w_iald, w_zald, w_iast, w_zast, w_alen, w_sI, w_sJ, w_sV, w_vI, w_vJ, w_vV, w_tI, w_mmax, w_mmin, w_mabs, w_lmax, w_acopy, gL, sL, kl_i, kl_l, kl_r, kl_s, kl_m, qI_i, qJ_l, qA_r, qA_s, pI_i, pJ_l, pA_r, pS_s, pM_m, pV_v, c1_i, c1_r, c1_s, c1_m, cS_0, cS_i, cS_l, cS_r, cS_s, cS_m, pN, z_rc_r, zE1, zE2, zE3, true_and, and_true, Nat.zero_add, Nat.reduceAdd, Nat.reduceLeDiff, true_or, or_true, Int.reduceLE, Int.reduceLT, zcmp_l, zcmp_g, zcmp_e, zcmp_le, mo, mf0, mz0, mf1, mz1, mf2, mz2, mf6, mz6, mf10, mz10, mf11, mz11, mf12, mz12, mf13, mz13, mf14, mz14, mf16, mz16, mf17, mz17, mf18, mz18, mf19, mz19, mi3, mi7, mi8, mi9, mi15, mi4, mi5, mi20, ma125, mn125, ma126, mn126, ma127, mn127, ma128, mn128, ma129, mn129, ma130, mn130, ma131, mn131, ma132, mn132, ma133, mn133, ma134, mn134, ma135, mn135, ma136, mn136, ma137, mn137]
  refine m_isWindow h w.n2 (fun q => ⟨fun w => absurd w (by decide), fun _ => ?_⟩) (fun q => ⟨fun _ => bad fun w => q w.1, fun w => absurd rfl w⟩)
  refine m_in (fun q1 => ⟨fun w => absurd w (by decide), fun _ => ?_⟩) (fun q1 => ⟨fun _ => bad fun w => q1 w.2.1, fun w => absurd rfl w⟩)
  refine m_in (fun q2 => ⟨fun w => absurd w (by decide), fun _ => ?_⟩) (fun q2 => ⟨fun _ => bad fun w => q2 w.2.2.1, fun w => absurd rfl w⟩)
  refine m_in (fun q3 => ⟨fun _ => ?_, fun w => absurd (by decide) w⟩) (fun q3 => ⟨fun w => absurd rfl w, fun _ => bad fun w => q3 w.2.2.2⟩)
  rw [cIf_t ⟨q, q1, q2, q3⟩] at hP
  rw [h.z (by omega) (by omega)]
  refine ⟨fun g => ?_, fun g => ?_⟩
  · rw [cIf_f g] at hP
    have g1 := h.up (k' := 96 + 4 * s 0 95) (k := 96 + 4 * s 0 95) (x := k) (by omega)
    have g2 := g1.up (k' := 96 + 4 * s 0 95 + 1) (k := 97 + 4 * s 0 95) (x := f) (by omega)
    have g3 := g2.up (k' := 96 + 4 * s 0 95 + 2) (k := 98 + 4 * s 0 95) (x := m) (by omega)
    have g4 := g3.up (k' := 96 + 4 * s 0 95 + 3) (k := 99 + 4 * s 0 95) (x := x) (by omega)
    have e4 := g4.z (j := 95) (by omega) (by omega)
    rw [zA_n (by omega), zA_n (by omega), zA_n (by omega), zA_n (by omega)] at e4
    rw [e4, zU_s]
    repeat' (with_reducible apply And.intro)
    all_goals first | omega | exact ⟨by omega, by omega⟩ | skip
    have fr : yE 0 D (zU (zU (zU (zU (zU D 125 (96 + 4 * s 0 95) k) 125 (96 + 4 * s 0 95 + 1) f) 125 (96 + 4 * s 0 95 + 2) m) 125 (96 + 4 * s 0 95 + 3) x) 125 95 (s 0 95 + 1)) := (yE.up (by omega) (by omega)).trans ((yE.up (by omega) (by omega)).trans ((yE.up (by omega) (by omega)).trans ((yE.up (by omega) (by omega)).trans (yE.up (by omega) (by omega)))))
    exact hP _ fr.n.fr (hM.now fr.n (g4.up (by omega)))
  · rw [cIf_t (Decidable.not_not.mp g)] at hP
    exact m_full hM hW hn hP
theorem m_forget {n x : Int} {s : Mem} (hW : WS n s) (hn : n < 1000000) : mOK miX6_forget [zr 124, zi x] s (r_forget s x) := by
  intro D P hM hP
  have h := hM.1
  unfold r_forget at hP
  have put : ∀ k : Int, 0 ≤ k → k < 273 → (∀ D', Fr 124 138 D D' → yS D' (sU s 0 (zA (s 0) k 0)) → P (s 0 k) D') → P (s 0 k) (zU D 125 k 0) := fun k k0 k1 hQ => by
    have f : yE 0 D (zU D 125 k 0) := yE.up k0 (by omega)
    exact hQ _ f.n.fr (hM.now f.n (h.up (by omega)))
  refine e_X6_forget ?_
  simp only [tX6_forget_0, w_ic, w_lc, w_lds, w_ild, w_lld, w_ald, w_ist, w_lst, w_ast, w_iinc, w_iadd, w_isub, w_imul, w_idiv, w_irem, w_iand, w_ior, w_ixor, w_ishl, w_ishr, w_iushr, w_ineg, w_ladd, w_lsub, w_lmul, w_ldiv, w_lrem, w_lcmp, w_i2l, w_l2i, w_dup, w_pop, w_dup2, w_ieq, w_zeq, w_ine, w_zne, w_ilt, w_zlt, w_ige, w_zge, w_igt, w_zgt, w_ile, w_zle, w_cut, w_tsw, zsw, w_iret, w_zret, w_lret, w_vret, w_nret, w_getI, w_getJ, w_getR, w_putI, w_putZ, w_putJ, w_iald, w_zald, w_iast, w_zast, w_alen, w_sI, w_sJ, w_sV, w_vI, w_vJ, w_vV, w_tI, w_mmax, w_mmin, w_mabs, w_lmax, w_acopy, gL, sL, kl_i, kl_l, kl_r, kl_s, kl_m, qI_i, qJ_l, qA_r, qA_s, pI_i, pJ_l, pA_r, pS_s, pM_m, pV_v, c1_i, c1_r, c1_s, c1_m, cS_0, cS_i, cS_l, cS_r, cS_s, cS_m, pN, z_rc_r, zE1, zE2, zE3, true_and, and_true, Nat.zero_add, Nat.reduceAdd, Nat.reduceLeDiff, true_or, or_true, Int.reduceLE, Int.reduceLT, zcmp_l, zcmp_g, zcmp_e, zcmp_le, mo, mf0, mz0, mf1, mz1, mf2, mz2, mf6, mz6, mf10, mz10, mf11, mz11, mf12, mz12, mf13, mz13, mf14, mz14, mf16, mz16, mf17, mz17, mf18, mz18, mf19, mz19, mi3, mi7, mi8, mi9, mi15, mi4, mi5, mi20, ma125, mn125, ma126, mn126, ma127, mn127, ma128, mn128, ma129, mn129, ma130, mn130, ma131, mn131, ma132, mn132, ma133, mn133, ma134, mn134, ma135, mn135, ma136, mn136, ma137, mn137]
  refine m_in (fun q => ⟨fun _ => ⟨fun g => ⟨fun g2 => ?_, fun g2 => ?_⟩, fun g => ?_⟩, fun w => absurd (by decide) w⟩) (fun q => ⟨fun w => absurd rfl w, fun _ => ?_⟩)
  · rw [cIf_f (by omega), cIf_f (by omega), cIf_t (by omega)] at hP
    rw [h.z (by omega) (by omega)]
    exact put 95 (by decide) (by decide) hP
  · rw [cIf_f (by omega), cIf_t (by omega)] at hP
    rw [h.z (by omega) (by omega)]
    exact put 70 (by decide) (by decide) hP
  · rw [cIf_t (by omega)] at hP
    rw [h.z (by omega) (by omega)]
    exact put 54 (by decide) (by decide) hP
  · rw [cIf_f (by omega), cIf_f (by omega), cIf_f (by omega)] at hP
    exact m_bad hM hW hn hP
/-- p holds of all below k -/
def wAl (p : Int → Prop) (k : Int) : Prop := ∀ j, 0 ≤ j → j < k → p j
theorem wAl_0 {p : Int → Prop} : wAl p 0 := fun j h0 h1 => by omega
theorem wAl_s {p : Int → Prop} {k : Int} (h : 0 ≤ k) : wAl p (k + 1) ↔ wAl p k ∧ p k := by
  constructor
  · intro w
    exact ⟨fun j j0 j1 => w j j0 (by omega), w k h (by omega)⟩
  · rintro ⟨w, q⟩ j j0 j1
    by_cases e : j = k
    · rw [e]; exact q
    · exact w j j0 (by omega)
theorem m_kindsOf {M i : Int} {a : Int → Int} {D : Mem} {P : Int → Mem → Prop} (h : yR D 0 a) (hw : WA M a) (hP : P (sGK a i) D) : zC miX6_kindsOf [zr 124, zi i] D P := by
  have c5 := hw.n5
  have outer : ∀ (r : Nat) (kd : Int) (v4 v5 v6 : AV), (6 - kd).toNat = r → 0 ≤ kd → kd ≤ 6 → zW miX6_kindsOf P 4 [zr 124, zi i, zi (zbits kd.toNat (fun kd => cIf (sFN a i kd) 1 0)), zi kd, v4, v5, v6] D := by
    intro r
    induction r with
    | zero =>
      intro kd v4 v5 v6 hr k0 k1
      have e : kd = 6 := by omega
      rw [e]
      refine sX6_kindsOf_4 _ _ _ _ _ ?_
      simp only [tX6_kindsOf_4, w_ic, w_lc, w_lds, w_ild, w_lld, w_ald, w_ist, w_lst, w_ast, w_iinc, w_iadd, w_isub, w_imul, w_idiv, w_irem, w_iand, w_ior, w_ixor, w_ishl, w_ishr, w_iushr, w_ineg, w_ladd, w_lsub, w_lmul, w_ldiv, w_lrem, w_lcmp, w_i2l, w_l2i, w_dup, w_pop, w_dup2, w_ieq, w_zeq, w_ine, w_zne, w_ilt, w_zlt, w_ige, w_zge, w_igt, w_zgt, w_ile, w_zle, w_cut, w_tsw, zsw, w_iret, w_zret, w_lret, w_vret, w_nret, w_getI, w_getJ, w_getR, w_putI, w_putZ, w_putJ, w_iald, w_zald, w_iast, w_zast, w_alen, w_sI, w_sJ, w_sV, w_vI, w_vJ, w_vV, w_tI, w_mmax, w_mmin, w_mabs, w_lmax, w_acopy, gL, sL, kl_i, kl_l, kl_r, kl_s, kl_m, qI_i, qJ_l, qA_r, qA_s, pI_i, pJ_l, pA_r, pS_s, pM_m, pV_v, c1_i, c1_r, c1_s, c1_m, cS_0, cS_i, cS_l, cS_r, cS_s, cS_m, pN, z_rc_r, zE1, zE2, zE3, true_and, and_true, Nat.zero_add, Nat.reduceAdd, Nat.reduceLeDiff, true_or, or_true, Int.reduceLE, Int.reduceLT, zcmp_l, zcmp_g, zcmp_e, zcmp_le, mo, mf0, mz0, mf1, mz1, mf2, mz2, mf6, mz6, mf10, mz10, mf11, mz11, mf12, mz12, mf13, mz13, mf14, mz14, mf16, mz16, mf17, mz17, mf18, mz18, mf19, mz19, mi3, mi7, mi8, mi9, mi15, mi4, mi5, mi20, ma125, mn125, ma126, mn126, ma127, mn127, ma128, mn128, ma129, mn129, ma130, mn130, ma131, mn131, ma132, mn132, ma133, mn133, ma134, mn134, ma135, mn135, ma136, mn136, ma137, mn137]
      exact ⟨fun _ => hP, fun w => absurd trivial w⟩
    | succ r ih =>
      intro kd v4 v5 v6 hr k0 k1
      have zb := zbits_b (f := fun kd => cIf (sFN a i kd) 1 0) kd.toNat
      have hlt : zbits kd.toNat (fun kd => cIf (sFN a i kd) 1 0) < 1048576 := by
        have e : (2 : Int) ^ kd.toNat < 1048576 := (by decide : ∀ n : Nat, n < 7 → (2 : Int) ^ n < 1048576) kd.toNat (by omega)
        omega
      have nx := fun v4 v5 v6 => ih (kd + 1) v4 v5 v6 (by omega) (by omega) (by omega)
      rw [zbits_s k0] at nx
      have inner : ∀ (m : Nat) (k is : Int) (v6 : AV), (a 70 - k).toNat = m → 0 ≤ k → k ≤ a 70 → (is = 0 ∧ ¬ wAl (okN a kd i) k) ∨ (is = 1 ∧ wAl (okN a kd i) k) → zW miX6_kindsOf P 16 [zr 124, zi i, zi (zbits kd.toNat (fun kd => cIf (sFN a i kd) 1 0)), zi kd, zi is, zi k, v6] D := by
        intro m
        induction m with
        | zero =>
          intro k is v6 hm k0' k1' hi
          have e : k = a 70 := by omega
          refine sX6_kindsOf_16 _ _ _ _ _ ?_
          simp only [tX6_kindsOf_16, w_ic, w_lc, w_lds, w_ild, w_lld, w_ald, w_ist, w_lst, w_ast, w_iinc, w_iadd, w_isub, w_imul, w_idiv, w_irem, w_iand, w_ior, w_ixor, w_ishl, w_ishr, w_iushr, w_ineg, w_ladd, w_lsub, w_lmul, w_ldiv, w_lrem, w_lcmp, w_i2l, w_l2i, w_dup, w_pop, w_dup2, w_ieq, w_zeq, w_ine, w_zne, w_ilt, w_zlt, w_ige, w_zge, w_igt, w_zgt, w_ile, w_zle, w_cut, w_tsw, zsw, w_iret, w_zret, w_lret, w_vret, w_nret, w_getI, w_getJ, w_getR, w_putI, w_putZ, w_putJ, w_iald, w_zald, w_iast, w_zast, w_alen, w_sI, w_sJ, w_sV, w_vI, w_vJ, w_vV, w_tI, w_mmax, w_mmin, w_mabs, w_lmax, w_acopy, gL, sL, kl_i, kl_l, kl_r, kl_s, kl_m, qI_i, qJ_l, qA_r, qA_s, pI_i, pJ_l, pA_r, pS_s, pM_m, pV_v, c1_i, c1_r, c1_s, c1_m, cS_0, cS_i, cS_l, cS_r, cS_s, cS_m, pN, z_rc_r, zE1, zE2, zE3, true_and, and_true, Nat.zero_add, Nat.reduceAdd, Nat.reduceLeDiff, true_or, or_true, Int.reduceLE, Int.reduceLT, zcmp_l, zcmp_g, zcmp_e, zcmp_le, mo, mf0, mz0, mf1, mz1, mf2, mz2, mf6, mz6, mf10, mz10, mf11, mz11, mf12, mz12, mf13, mz13, mf14, mz14, mf16, mz16, mf17, mz17, mf18, mz18, mf19, mz19, mi3, mi7, mi8, mi9, mi15, mi4, mi5, mi20, ma125, mn125, ma126, mn126, ma127, mn127, ma128, mn128, ma129, mn129, ma130, mn130, ma131, mn131, ma132, mn132, ma133, mn133, ma134, mn134, ma135, mn135, ma136, mn136, ma137, mn137]
          rw [h.z (by omega) (by omega)]
          refine ⟨fun _ => ⟨fun q => ?_, fun q => ?_⟩, fun w => absurd (by omega) w⟩
          · have hn : ¬ sFN a i kd := by
              rcases hi with ⟨_, hi⟩ | ⟨hi, _⟩
              · rw [e] at hi; exact hi
              · omega
            rw [cIf_f hn, if_pos rfl, Int.add_zero] at nx
            rw [bO_z zb.1 hlt]
            exact ⟨⟨by omega, by omega⟩, nx _ _ _⟩
          · have hy : sFN a i kd := by
              rcases hi with ⟨hi, _⟩ | ⟨_, hi⟩
              · exact absurd hi q
              · rw [e] at hi; exact hi
            rw [cIf_t hy, if_neg (by decide), ← bO_add k0 (by omega) zb.1 zb.2] at nx
            exact ⟨⟨by omega, by omega⟩, nx _ _ _⟩
        | succ m ihm =>
          intro k is v6 hm k0' k1' hi
          have ww := hw.2.2.2.2.2.1 k k0' (by omega)
          have up : ∀ (is' : Int) (v6 : AV), ((is' = 0 ∧ ¬ (wAl (okN a kd i) k ∧ okN a kd i k)) ∨ (is' = 1 ∧ (wAl (okN a kd i) k ∧ okN a kd i k))) → zR (k + 1) ∧ zW miX6_kindsOf P 16 [zr 124, zi i, zi (zbits kd.toNat (fun kd => cIf (sFN a i kd) 1 0)), zi kd, zi is', zi (k + 1), v6] D := fun is' v6 g => ⟨⟨by omega, by omega⟩, ihm (k + 1) is' v6 (by omega) (by omega) (by omega) (by rw [wAl_s k0']; exact g)⟩
          have hy : ¬ is = 0 → wAl (okN a kd i) k := fun q => by
            rcases hi with ⟨hi, _⟩ | ⟨_, hi⟩
            · exact absurd hi q
            · exact hi
          refine sX6_kindsOf_16 _ _ _ _ _ ?_
          simp only [tX6_kindsOf_16, w_ic, w_lc, w_lds, w_ild, w_lld, w_ald, w_ist, w_lst, w_ast, w_iinc, w_iadd, w_isub, w_imul, w_idiv, w_irem, w_iand, w_ior, w_ixor, w_ishl, w_ishr, w_iushr, w_ineg, w_ladd, w_lsub, w_lmul, w_ldiv, w_lrem, w_lcmp, w_i2l, w_l2i, w_dup, w_pop, w_dup2, w_ieq, w_zeq, w_ine, w_zne, w_ilt, w_zlt, w_ige, w_zge, w_igt, w_zgt, w_ile, w_zle, w_cut, w_tsw, zsw, w_iret, w_zret, w_lret, w_vret, w_nret, w_getI, w_getJ, w_getR, w_putI, w_putZ, w_putJ, w_iald, w_zald, w_iast, w_zast, w_alen, w_sI, w_sJ, w_sV, w_vI, w_vJ, w_vV, w_tI, w_mmax, w_mmin, w_mabs, w_lmax, w_acopy, gL, sL, kl_i, kl_l, kl_r, kl_s, kl_m, qI_i, qJ_l, qA_r, qA_s, pI_i, pJ_l, pA_r, pS_s, pM_m, pV_v, c1_i, c1_r, c1_s, c1_m, cS_0, cS_i, cS_l, cS_r, cS_s, cS_m, pN, z_rc_r, zE1, zE2, zE3, true_and, and_true, Nat.zero_add, Nat.reduceAdd, Nat.reduceLeDiff, true_or, or_true, Int.reduceLE, Int.reduceLT, zcmp_l, zcmp_g, zcmp_e, zcmp_le, mo, mf0, mz0, mf1, mz1, mf2, mz2, mf6, mz6, mf10, mz10, mf11, mz11, mf12, mz12, mf13, mz13, mf14, mz14, mf16, mz16, mf17, mz17, mf18, mz18, mf19, mz19, mi3, mi7, mi8, mi9, mi15, mi4, mi5, mi20, ma125, mn125, ma126, mn126, ma127, mn127, ma128, mn128, ma129, mn129, ma130, mn130, ma131, mn131, ma132, mn132, ma133, mn133, ma134, mn134, ma135, mn135, ma136, mn136, ma137, mn137]
          rw [h.z (by omega) (by omega), h.z (j := 71 + 4 * k) (by omega) (by omega), h.z (j := 71 + 4 * k + 1) (by omega) (by omega), h.z (j := 71 + 4 * k + 2) (by omega) (by omega)]
          rw [show 71 + 4 * k + 1 = 72 + 4 * k by omega, show 71 + 4 * k + 2 = 73 + 4 * k by omega, show 71 + 4 * k + 3 = 74 + 4 * k by omega]
          refine ⟨fun w => absurd w (by omega), fun _ => ?_⟩
          repeat' (with_reducible apply And.intro)
          all_goals first | omega | exact ⟨by omega, by omega⟩ | skip
          · intro q
            refine up 0 _ (Or.inl ⟨rfl, fun g => ?_⟩)
            rcases hi with ⟨_, hi⟩ | ⟨hi, _⟩
            · exact hi g.1
            · omega
          · intro q
            refine ⟨by omega, by omega, fun q2 => up 1 _ (Or.inr ⟨rfl, hy q, fun g => absurd g q2⟩), fun q2 => ?_⟩
            repeat' (with_reducible apply And.intro)
            all_goals first | omega | exact ⟨by omega, by omega⟩ | skip
            refine m_loudOf k0 (by omega) ww.2.1.1 (by omega) ww.2.2.1.1 ?_
            rw [h.z (j := 74 + 4 * k) (by omega) (by omega)]
            repeat' (with_reducible apply And.intro)
            all_goals first | omega | exact ⟨by omega, by omega⟩ | skip
            · intro q3
              exact up 0 _ (Or.inl ⟨rfl, fun g => q3 (g.2 (Decidable.not_not.mp q2))⟩)
            · intro q3
              exact up 1 _ (Or.inr ⟨rfl, hy q, fun _ => Decidable.not_not.mp q3⟩)
      refine sX6_kindsOf_4 _ _ _ _ _ ?_
      simp only [tX6_kindsOf_4, w_ic, w_lc, w_lds, w_ild, w_lld, w_ald, w_ist, w_lst, w_ast, w_iinc, w_iadd, w_isub, w_imul, w_idiv, w_irem, w_iand, w_ior, w_ixor, w_ishl, w_ishr, w_iushr, w_ineg, w_ladd, w_lsub, w_lmul, w_ldiv, w_lrem, w_lcmp, w_i2l, w_l2i, w_dup, w_pop, w_dup2, w_ieq, w_zeq, w_ine, w_zne, w_ilt, w_zlt, w_ige, w_zge, w_igt, w_zgt, w_ile, w_zle, w_cut, w_tsw, zsw, w_iret, w_zret, w_lret, w_vret, w_nret, w_getI, w_getJ, w_getR, w_putI, w_putZ, w_putJ, w_iald, w_zald, w_iast, w_zast, w_alen, w_sI, w_sJ, w_sV, w_vI, w_vJ, w_vV, w_tI, w_mmax, w_mmin, w_mabs, w_lmax, w_acopy, gL, sL, kl_i, kl_l, kl_r, kl_s, kl_m, qI_i, qJ_l, qA_r, qA_s, pI_i, pJ_l, pA_r, pS_s, pM_m, pV_v, c1_i, c1_r, c1_s, c1_m, cS_0, cS_i, cS_l, cS_r, cS_s, cS_m, pN, z_rc_r, zE1, zE2, zE3, true_and, and_true, Nat.zero_add, Nat.reduceAdd, Nat.reduceLeDiff, true_or, or_true, Int.reduceLE, Int.reduceLT, zcmp_l, zcmp_g, zcmp_e, zcmp_le, mo, mf0, mz0, mf1, mz1, mf2, mz2, mf6, mz6, mf10, mz10, mf11, mz11, mf12, mz12, mf13, mz13, mf14, mz14, mf16, mz16, mf17, mz17, mf18, mz18, mf19, mz19, mi3, mi7, mi8, mi9, mi15, mi4, mi5, mi20, ma125, mn125, ma126, mn126, ma127, mn127, ma128, mn128, ma129, mn129, ma130, mn130, ma131, mn131, ma132, mn132, ma133, mn133, ma134, mn134, ma135, mn135, ma136, mn136, ma137, mn137]
      exact ⟨fun w => absurd w (by omega), fun _ => inner _ 0 1 _ rfl (by omega) c5.1 (Or.inr ⟨rfl, wAl_0⟩)⟩
  refine e_X6_kindsOf ?_
  simp only [tX6_kindsOf_0, w_ic, w_lc, w_lds, w_ild, w_lld, w_ald, w_ist, w_lst, w_ast, w_iinc, w_iadd, w_isub, w_imul, w_idiv, w_irem, w_iand, w_ior, w_ixor, w_ishl, w_ishr, w_iushr, w_ineg, w_ladd, w_lsub, w_lmul, w_ldiv, w_lrem, w_lcmp, w_i2l, w_l2i, w_dup, w_pop, w_dup2, w_ieq, w_zeq, w_ine, w_zne, w_ilt, w_zlt, w_ige, w_zge, w_igt, w_zgt, w_ile, w_zle, w_cut, w_tsw, zsw, w_iret, w_zret, w_lret, w_vret, w_nret, w_getI, w_getJ, w_getR, w_putI, w_putZ, w_putJ, w_iald, w_zald, w_iast, w_zast, w_alen, w_sI, w_sJ, w_sV, w_vI, w_vJ, w_vV, w_tI, w_mmax, w_mmin, w_mabs, w_lmax, w_acopy, gL, sL, kl_i, kl_l, kl_r, kl_s, kl_m, qI_i, qJ_l, qA_r, qA_s, pI_i, pJ_l, pA_r, pS_s, pM_m, pV_v, c1_i, c1_r, c1_s, c1_m, cS_0, cS_i, cS_l, cS_r, cS_s, cS_m, pN, z_rc_r, zE1, zE2, zE3, true_and, and_true, Nat.zero_add, Nat.reduceAdd, Nat.reduceLeDiff, true_or, or_true, Int.reduceLE, Int.reduceLT, zcmp_l, zcmp_g, zcmp_e, zcmp_le, mo, mf0, mz0, mf1, mz1, mf2, mz2, mf6, mz6, mf10, mz10, mf11, mz11, mf12, mz12, mf13, mz13, mf14, mz14, mf16, mz16, mf17, mz17, mf18, mz18, mf19, mz19, mi3, mi7, mi8, mi9, mi15, mi4, mi5, mi20, ma125, mn125, ma126, mn126, ma127, mn127, ma128, mn128, ma129, mn129, ma130, mn130, ma131, mn131, ma132, mn132, ma133, mn133, ma134, mn134, ma135, mn135, ma136, mn136, ma137, mn137]
  exact outer 6 0 _ _ _ rfl (by omega) (by omega)
theorem m_is {n i : Int} {s : Mem} (hW : WS n s) (hn : n < 1000000) : mOK miX6_is [zr 124, zi i] s (r_is s i) := by
  intro D P hM hP
  have w := hW.1.1
  have h := hM.1
  unfold r_is at hP
  refine e_X6_is ?_
  simp only [tX6_is_0, w_ic, w_lc, w_lds, w_ild, w_lld, w_ald, w_ist, w_lst, w_ast, w_iinc, w_iadd, w_isub, w_imul, w_idiv, w_irem, w_iand, w_ior, w_ixor, w_ishl, w_ishr, w_iushr, w_ineg, w_ladd, w_lsub, w_lmul, w_ldiv, w_lrem, w_lcmp, w_i2l, w_l2i, w_dup, w_pop, w_dup2, w_ieq, w_zeq, w_ine, w_zne, w_ilt, w_zlt, w_ige, w_zge, w_igt, w_zgt, w_ile, w_zle, w_cut, w_tsw, zsw, w_iret, w_zret, w_lret, w_vret, w_nret, w_getI, w_getJ, w_getR, w_putI, w_putZ, w_putJ, w_iald, w_zald, w_iast, w_zast, w_alen, w_sI, w_sJ, w_sV, w_vI, w_vJ, w_vV, w_tI, w_mmax, w_mmin, w_mabs, w_lmax, w_acopy, gL, sL, kl_i, kl_l, kl_r, kl_s, kl_m, qI_i, qJ_l, qA_r, qA_s, pI_i, pJ_l, pA_r, pS_s, pM_m, pV_v, c1_i, c1_r, c1_s, c1_m, cS_0, cS_i, cS_l, cS_r, cS_s, cS_m, pN, z_rc_r, zE1, zE2, zE3, true_and, and_true, Nat.zero_add, Nat.reduceAdd, Nat.reduceLeDiff, true_or, or_true, Int.reduceLE, Int.reduceLT, zcmp_l, zcmp_g, zcmp_e, zcmp_le, mo, mf0, mz0, mf1, mz1, mf2, mz2, mf6, mz6, mf10, mz10, mf11, mz11, mf12, mz12, mf13, mz13, mf14, mz14, mf16, mz16, mf17, mz17, mf18, mz18, mf19, mz19, mi3, mi7, mi8, mi9, mi15, mi4, mi5, mi20, ma125, mn125, ma126, mn126, ma127, mn127, ma128, mn128, ma129, mn129, ma130, mn130, ma131, mn131, ma132, mn132, ma133, mn133, ma134, mn134, ma135, mn135, ma136, mn136, ma137, mn137]
  refine m_isGoer h w.n1 (fun q => ⟨fun w => absurd w (by decide), fun _ => ?_⟩) (fun q => ⟨fun _ => ?_, fun w => absurd rfl w⟩)
  · rw [cIf_t q] at hP
    exact m_kindsOf h w (hP D Fr.rfl hM)
  · rw [cIf_f q] at hP
    exact m_bad hM hW hn hP
theorem m_isHeard {k x d : Int} {D : Mem} {P : Int → Mem → Prop} (k0 : 0 ≤ k) (k1 : k < 6) (h0 : 0 ≤ x) (h1 : x ≤ 1000) (h2 : 0 ≤ d) (h3 : d ≤ 1000) (hP : P (if 1 ≤ zHe k x d then 1 else 0) D) : zC miX6_isHeard [zi k, zi x, zi d] D P := by
  refine e_X6_isHeard ?_
  simp only [tX6_isHeard_0, w_ic, w_lc, w_lds, w_ild, w_lld, w_ald, w_ist, w_lst, w_ast, w_iinc, w_iadd, w_isub, w_imul, w_idiv, w_irem, w_iand, w_ior, w_ixor, w_ishl, w_ishr, w_iushr, w_ineg, w_ladd, w_lsub, w_lmul, w_ldiv, w_lrem, w_lcmp, w_i2l, w_l2i, w_dup, w_pop, w_dup2, w_ieq, w_zeq, w_ine, w_zne, w_ilt, w_zlt, w_ige, w_zge, w_igt, w_zgt, w_ile, w_zle, w_cut, w_tsw, zsw, w_iret, w_zret, w_lret, w_vret, w_nret, w_getI, w_getJ, w_getR, w_putI, w_putZ, w_putJ, w_iald, w_zald, w_iast, w_zast, w_alen, w_sI, w_sJ, w_sV, w_vI, w_vJ, w_vV, w_tI, w_mmax, w_mmin, w_mabs, w_lmax, w_acopy, gL, sL, kl_i, kl_l, kl_r, kl_s, kl_m, qI_i, qJ_l, qA_r, qA_s, pI_i, pJ_l, pA_r, pS_s, pM_m, pV_v, c1_i, c1_r, c1_s, c1_m, cS_0, cS_i, cS_l, cS_r, cS_s, cS_m, pN, z_rc_r, zE1, zE2, zE3, true_and, and_true, Nat.zero_add, Nat.reduceAdd, Nat.reduceLeDiff, true_or, or_true, Int.reduceLE, Int.reduceLT, zcmp_l, zcmp_g, zcmp_e, zcmp_le, mo, mf0, mz0, mf1, mz1, mf2, mz2, mf6, mz6, mf10, mz10, mf11, mz11, mf12, mz12, mf13, mz13, mf14, mz14, mf16, mz16, mf17, mz17, mf18, mz18, mf19, mz19, mi3, mi7, mi8, mi9, mi15, mi4, mi5, mi20, ma125, mn125, ma126, mn126, ma127, mn127, ma128, mn128, ma129, mn129, ma130, mn130, ma131, mn131, ma132, mn132, ma133, mn133, ma134, mn134, ma135, mn135, ma136, mn136, ma137, mn137]
  refine m_heardOf k0 k1 h0 h1 h2 h3 ⟨fun q => ?_, fun q => ?_⟩
  · rw [if_neg (by omega)] at hP; exact hP
  · rw [if_pos (by omega)] at hP; exact hP
theorem m_windowsOf {M i : Int} {a : Int → Int} {D : Mem} {P : Int → Mem → Prop} (h : yR D 0 a) (hw : WA M a) (hP : P (sWK a i) D) : zC miX6_windowsOf [zr 124, zi i] D P := by
  have c5 := hw.n6
  have outer : ∀ (r : Nat) (kd : Int) (v4 v5 v6 : AV), (6 - kd).toNat = r → 0 ≤ kd → kd ≤ 6 → zW miX6_windowsOf P 4 [zr 124, zi i, zi (zbits kd.toNat (fun kd => cIf (sFM a i kd) 1 0)), zi kd, v4, v5, v6] D := by
    intro r
    induction r with
    | zero =>
      intro kd v4 v5 v6 hr k0 k1
      have e : kd = 6 := by omega
      rw [e]
      refine sX6_windowsOf_4 _ _ _ _ _ ?_
      simp only [tX6_windowsOf_4, w_ic, w_lc, w_lds, w_ild, w_lld, w_ald, w_ist, w_lst, w_ast, w_iinc, w_iadd, w_isub, w_imul, w_idiv, w_irem, w_iand, w_ior, w_ixor, w_ishl, w_ishr, w_iushr, w_ineg, w_ladd, w_lsub, w_lmul, w_ldiv, w_lrem, w_lcmp, w_i2l, w_l2i, w_dup, w_pop, w_dup2, w_ieq, w_zeq, w_ine, w_zne, w_ilt, w_zlt, w_ige, w_zge, w_igt, w_zgt, w_ile, w_zle, w_cut, w_tsw, zsw, w_iret, w_zret, w_lret, w_vret, w_nret, w_getI, w_getJ, w_getR, w_putI, w_putZ, w_putJ, w_iald, w_zald, w_iast, w_zast, w_alen, w_sI, w_sJ, w_sV, w_vI, w_vJ, w_vV, w_tI, w_mmax, w_mmin, w_mabs, w_lmax, w_acopy, gL, sL, kl_i, kl_l, kl_r, kl_s, kl_m, qI_i, qJ_l, qA_r, qA_s, pI_i, pJ_l, pA_r, pS_s, pM_m, pV_v, c1_i, c1_r, c1_s, c1_m, cS_0, cS_i, cS_l, cS_r, cS_s, cS_m, pN, z_rc_r, zE1, zE2, zE3, true_and, and_true, Nat.zero_add, Nat.reduceAdd, Nat.reduceLeDiff, true_or, or_true, Int.reduceLE, Int.reduceLT, zcmp_l, zcmp_g, zcmp_e, zcmp_le, mo, mf0, mz0, mf1, mz1, mf2, mz2, mf6, mz6, mf10, mz10, mf11, mz11, mf12, mz12, mf13, mz13, mf14, mz14, mf16, mz16, mf17, mz17, mf18, mz18, mf19, mz19, mi3, mi7, mi8, mi9, mi15, mi4, mi5, mi20, ma125, mn125, ma126, mn126, ma127, mn127, ma128, mn128, ma129, mn129, ma130, mn130, ma131, mn131, ma132, mn132, ma133, mn133, ma134, mn134, ma135, mn135, ma136, mn136, ma137, mn137]
      exact ⟨fun _ => hP, fun w => absurd trivial w⟩
    | succ r ih =>
      intro kd v4 v5 v6 hr k0 k1
      have zb := zbits_b (f := fun kd => cIf (sFM a i kd) 1 0) kd.toNat
      have hlt : zbits kd.toNat (fun kd => cIf (sFM a i kd) 1 0) < 1048576 := by
        have e : (2 : Int) ^ kd.toNat < 1048576 := (by decide : ∀ n : Nat, n < 7 → (2 : Int) ^ n < 1048576) kd.toNat (by omega)
        omega
      have nx := fun v4 v5 v6 => ih (kd + 1) v4 v5 v6 (by omega) (by omega) (by omega)
      rw [zbits_s k0] at nx
      have inner : ∀ (m : Nat) (k is : Int) (v6 : AV), (a 95 - k).toNat = m → 0 ≤ k → k ≤ a 95 → (is = 0 ∧ ¬ wAl (okM a kd i) k) ∨ (is = 1 ∧ wAl (okM a kd i) k) → zW miX6_windowsOf P 16 [zr 124, zi i, zi (zbits kd.toNat (fun kd => cIf (sFM a i kd) 1 0)), zi kd, zi is, zi k, v6] D := by
        intro m
        induction m with
        | zero =>
          intro k is v6 hm k0' k1' hi
          have e : k = a 95 := by omega
          refine sX6_windowsOf_16 _ _ _ _ _ ?_
          simp only [tX6_windowsOf_16, w_ic, w_lc, w_lds, w_ild, w_lld, w_ald, w_ist, w_lst, w_ast, w_iinc, w_iadd, w_isub, w_imul, w_idiv, w_irem, w_iand, w_ior, w_ixor, w_ishl, w_ishr, w_iushr, w_ineg, w_ladd, w_lsub, w_lmul, w_ldiv, w_lrem, w_lcmp, w_i2l, w_l2i, w_dup, w_pop, w_dup2, w_ieq, w_zeq, w_ine, w_zne, w_ilt, w_zlt, w_ige, w_zge, w_igt, w_zgt, w_ile, w_zle, w_cut, w_tsw, zsw, w_iret, w_zret, w_lret, w_vret, w_nret, w_getI, w_getJ, w_getR, w_putI, w_putZ, w_putJ, w_iald, w_zald, w_iast, w_zast, w_alen, w_sI, w_sJ, w_sV, w_vI, w_vJ, w_vV, w_tI, w_mmax, w_mmin, w_mabs, w_lmax, w_acopy, gL, sL, kl_i, kl_l, kl_r, kl_s, kl_m, qI_i, qJ_l, qA_r, qA_s, pI_i, pJ_l, pA_r, pS_s, pM_m, pV_v, c1_i, c1_r, c1_s, c1_m, cS_0, cS_i, cS_l, cS_r, cS_s, cS_m, pN, z_rc_r, zE1, zE2, zE3, true_and, and_true, Nat.zero_add, Nat.reduceAdd, Nat.reduceLeDiff, true_or, or_true, Int.reduceLE, Int.reduceLT, zcmp_l, zcmp_g, zcmp_e, zcmp_le, mo, mf0, mz0, mf1, mz1, mf2, mz2, mf6, mz6, mf10, mz10, mf11, mz11, mf12, mz12, mf13, mz13, mf14, mz14, mf16, mz16, mf17, mz17, mf18, mz18, mf19, mz19, mi3, mi7, mi8, mi9, mi15, mi4, mi5, mi20, ma125, mn125, ma126, mn126, ma127, mn127, ma128, mn128, ma129, mn129, ma130, mn130, ma131, mn131, ma132, mn132, ma133, mn133, ma134, mn134, ma135, mn135, ma136, mn136, ma137, mn137]
          rw [h.z (by omega) (by omega)]
          refine ⟨fun _ => ⟨fun q => ?_, fun q => ?_⟩, fun w => absurd (by omega) w⟩
          · have hn : ¬ sFM a i kd := by
              rcases hi with ⟨_, hi⟩ | ⟨hi, _⟩
              · rw [e] at hi; exact hi
              · omega
            rw [cIf_f hn, if_pos rfl, Int.add_zero] at nx
            rw [bO_z zb.1 hlt]
            exact ⟨⟨by omega, by omega⟩, nx _ _ _⟩
          · have hy : sFM a i kd := by
              rcases hi with ⟨hi, _⟩ | ⟨_, hi⟩
              · exact absurd hi q
              · rw [e] at hi; exact hi
            rw [cIf_t hy, if_neg (by decide), ← bO_add k0 (by omega) zb.1 zb.2] at nx
            exact ⟨⟨by omega, by omega⟩, nx _ _ _⟩
        | succ m ihm =>
          intro k is v6 hm k0' k1' hi
          have ww := hw.2.2.2.2.2.2.1 k k0' (by omega)
          have up : ∀ (is' : Int) (v6 : AV), ((is' = 0 ∧ ¬ (wAl (okM a kd i) k ∧ okM a kd i k)) ∨ (is' = 1 ∧ (wAl (okM a kd i) k ∧ okM a kd i k))) → zR (k + 1) ∧ zW miX6_windowsOf P 16 [zr 124, zi i, zi (zbits kd.toNat (fun kd => cIf (sFM a i kd) 1 0)), zi kd, zi is', zi (k + 1), v6] D := fun is' v6 g => ⟨⟨by omega, by omega⟩, ihm (k + 1) is' v6 (by omega) (by omega) (by omega) (by rw [wAl_s k0']; exact g)⟩
          have hy : ¬ is = 0 → wAl (okM a kd i) k := fun q => by
            rcases hi with ⟨hi, _⟩ | ⟨_, hi⟩
            · exact absurd hi q
            · exact hi
          have h01 : a (99 + 4 * k) = 0 ∨ a (99 + 4 * k) = 1 := ww.2.2.2
          refine sX6_windowsOf_16 _ _ _ _ _ ?_
          simp only [tX6_windowsOf_16, w_ic, w_lc, w_lds, w_ild, w_lld, w_ald, w_ist, w_lst, w_ast, w_iinc, w_iadd, w_isub, w_imul, w_idiv, w_irem, w_iand, w_ior, w_ixor, w_ishl, w_ishr, w_iushr, w_ineg, w_ladd, w_lsub, w_lmul, w_ldiv, w_lrem, w_lcmp, w_i2l, w_l2i, w_dup, w_pop, w_dup2, w_ieq, w_zeq, w_ine, w_zne, w_ilt, w_zlt, w_ige, w_zge, w_igt, w_zgt, w_ile, w_zle, w_cut, w_tsw, zsw, w_iret, w_zret, w_lret, w_vret, w_nret, w_getI, w_getJ, w_getR, w_putI, w_putZ, w_putJ, w_iald, w_zald, w_iast, w_zast, w_alen, w_sI, w_sJ, w_sV, w_vI, w_vJ, w_vV, w_tI, w_mmax, w_mmin, w_mabs, w_lmax, w_acopy, gL, sL, kl_i, kl_l, kl_r, kl_s, kl_m, qI_i, qJ_l, qA_r, qA_s, pI_i, pJ_l, pA_r, pS_s, pM_m, pV_v, c1_i, c1_r, c1_s, c1_m, cS_0, cS_i, cS_l, cS_r, cS_s, cS_m, pN, z_rc_r, zE1, zE2, zE3, true_and, and_true, Nat.zero_add, Nat.reduceAdd, Nat.reduceLeDiff, true_or, or_true, Int.reduceLE, Int.reduceLT, zcmp_l, zcmp_g, zcmp_e, zcmp_le, mo, mf0, mz0, mf1, mz1, mf2, mz2, mf6, mz6, mf10, mz10, mf11, mz11, mf12, mz12, mf13, mz13, mf14, mz14, mf16, mz16, mf17, mz17, mf18, mz18, mf19, mz19, mi3, mi7, mi8, mi9, mi15, mi4, mi5, mi20, ma125, mn125, ma126, mn126, ma127, mn127, ma128, mn128, ma129, mn129, ma130, mn130, ma131, mn131, ma132, mn132, ma133, mn133, ma134, mn134, ma135, mn135, ma136, mn136, ma137, mn137]
          rw [h.z (by omega) (by omega), h.z (j := 96 + 4 * k) (by omega) (by omega), h.z (j := 96 + 4 * k + 1) (by omega) (by omega), h.z (j := 96 + 4 * k + 2) (by omega) (by omega)]
          rw [show 96 + 4 * k + 1 = 97 + 4 * k by omega, show 96 + 4 * k + 2 = 98 + 4 * k by omega, show 96 + 4 * k + 3 = 99 + 4 * k by omega]
          refine ⟨fun w => absurd w (by omega), fun _ => ?_⟩
          repeat' (with_reducible apply And.intro)
          all_goals first | omega | exact ⟨by omega, by omega⟩ | skip
          · intro q
            refine up 0 _ (Or.inl ⟨rfl, fun g => ?_⟩)
            rcases hi with ⟨_, hi⟩ | ⟨hi, _⟩
            · exact hi g.1
            · omega
          · intro q
            refine ⟨by omega, by omega, fun q2 => up 1 _ (Or.inr ⟨rfl, hy q, fun g => absurd g q2⟩), fun q2 => ?_⟩
            repeat' (with_reducible apply And.intro)
            all_goals first | omega | exact ⟨by omega, by omega⟩ | skip
            refine m_isHeard k0 (by omega) ww.2.1.1 (by omega) ww.2.2.1.1 (by omega) ?_
            rw [h.z (j := 99 + 4 * k) (by omega) (by omega)]
            repeat' (with_reducible apply And.intro)
            all_goals first | omega | exact ⟨by omega, by omega⟩ | skip
            · intro q3
              refine up 0 _ (Or.inl ⟨rfl, fun g => q3 ?_⟩)
              have := g.2 (Decidable.not_not.mp q2)
              split
              · rename_i h9; exact (this.mp h9).symm
              · rename_i h9
                rcases h01 with e | e
                · exact e.symm
                · exact absurd (this.mpr e) h9
            · intro q3
              refine up 1 _ (Or.inr ⟨rfl, hy q, fun _ => ?_⟩)
              have q4 := Decidable.not_not.mp q3
              split at q4
              · rename_i h9; exact ⟨fun _ => q4.symm, fun _ => h9⟩
              · rename_i h9; exact ⟨fun w => absurd w h9, fun w => by omega⟩
      refine sX6_windowsOf_4 _ _ _ _ _ ?_
      simp only [tX6_windowsOf_4, w_ic, w_lc, w_lds, w_ild, w_lld, w_ald, w_ist, w_lst, w_ast, w_iinc, w_iadd, w_isub, w_imul, w_idiv, w_irem, w_iand, w_ior, w_ixor, w_ishl, w_ishr, w_iushr, w_ineg, w_ladd, w_lsub, w_lmul, w_ldiv, w_lrem, w_lcmp, w_i2l, w_l2i, w_dup, w_pop, w_dup2, w_ieq, w_zeq, w_ine, w_zne, w_ilt, w_zlt, w_ige, w_zge, w_igt, w_zgt, w_ile, w_zle, w_cut, w_tsw, zsw, w_iret, w_zret, w_lret, w_vret, w_nret, w_getI, w_getJ, w_getR, w_putI, w_putZ, w_putJ, w_iald, w_zald, w_iast, w_zast, w_alen, w_sI, w_sJ, w_sV, w_vI, w_vJ, w_vV, w_tI, w_mmax, w_mmin, w_mabs, w_lmax, w_acopy, gL, sL, kl_i, kl_l, kl_r, kl_s, kl_m, qI_i, qJ_l, qA_r, qA_s, pI_i, pJ_l, pA_r, pS_s, pM_m, pV_v, c1_i, c1_r, c1_s, c1_m, cS_0, cS_i, cS_l, cS_r, cS_s, cS_m, pN, z_rc_r, zE1, zE2, zE3, true_and, and_true, Nat.zero_add, Nat.reduceAdd, Nat.reduceLeDiff, true_or, or_true, Int.reduceLE, Int.reduceLT, zcmp_l, zcmp_g, zcmp_e, zcmp_le, mo, mf0, mz0, mf1, mz1, mf2, mz2, mf6, mz6, mf10, mz10, mf11, mz11, mf12, mz12, mf13, mz13, mf14, mz14, mf16, mz16, mf17, mz17, mf18, mz18, mf19, mz19, mi3, mi7, mi8, mi9, mi15, mi4, mi5, mi20, ma125, mn125, ma126, mn126, ma127, mn127, ma128, mn128, ma129, mn129, ma130, mn130, ma131, mn131, ma132, mn132, ma133, mn133, ma134, mn134, ma135, mn135, ma136, mn136, ma137, mn137]
      exact ⟨fun w => absurd w (by omega), fun _ => inner _ 0 1 _ rfl (by omega) c5.1 (Or.inr ⟨rfl, wAl_0⟩)⟩
  refine e_X6_windowsOf ?_
  simp only [tX6_windowsOf_0, w_ic, w_lc, w_lds, w_ild, w_lld, w_ald, w_ist, w_lst, w_ast, w_iinc, w_iadd, w_isub, w_imul, w_idiv, w_irem, w_iand, w_ior, w_ixor, w_ishl, w_ishr, w_iushr, w_ineg, w_ladd, w_lsub, w_lmul, w_ldiv, w_lrem, w_lcmp, w_i2l, w_l2i, w_dup, w_pop, w_dup2, w_ieq, w_zeq, w_ine, w_zne, w_ilt, w_zlt, w_ige, w_zge, w_igt, w_zgt, w_ile, w_zle, w_cut, w_tsw, zsw, w_iret, w_zret, w_lret, w_vret, w_nret, w_getI, w_getJ, w_getR, w_putI, w_putZ, w_putJ, w_iald, w_zald, w_iast, w_zast, w_alen, w_sI, w_sJ, w_sV, w_vI, w_vJ, w_vV, w_tI, w_mmax, w_mmin, w_mabs, w_lmax, w_acopy, gL, sL, kl_i, kl_l, kl_r, kl_s, kl_m, qI_i, qJ_l, qA_r, qA_s, pI_i, pJ_l, pA_r, pS_s, pM_m, pV_v, c1_i, c1_r, c1_s, c1_m, cS_0, cS_i, cS_l, cS_r, cS_s, cS_m, pN, z_rc_r, zE1, zE2, zE3, true_and, and_true, Nat.zero_add, Nat.reduceAdd, Nat.reduceLeDiff, true_or, or_true, Int.reduceLE, Int.reduceLT, zcmp_l, zcmp_g, zcmp_e, zcmp_le, mo, mf0, mz0, mf1, mz1, mf2, mz2, mf6, mz6, mf10, mz10, mf11, mz11, mf12, mz12, mf13, mz13, mf14, mz14, mf16, mz16, mf17, mz17, mf18, mz18, mf19, mz19, mi3, mi7, mi8, mi9, mi15, mi4, mi5, mi20, ma125, mn125, ma126, mn126, ma127, mn127, ma128, mn128, ma129, mn129, ma130, mn130, ma131, mn131, ma132, mn132, ma133, mn133, ma134, mn134, ma135, mn135, ma136, mn136, ma137, mn137]
  exact outer 6 0 _ _ _ rfl (by omega) (by omega)
theorem m_kinds {n i : Int} {s : Mem} (hW : WS n s) (hn : n < 1000000) : mOK miX6_kinds [zr 124, zi i] s (r_kinds s i) := by
  intro D P hM hP
  have w := hW.1.1
  have h := hM.1
  unfold r_kinds at hP
  refine e_X6_kinds ?_
  simp only [tX6_kinds_0, w_ic, w_lc, w_lds, w_ild, w_lld, w_ald, w_ist, w_lst, w_ast, w_iinc, w_iadd, w_isub, w_imul, w_idiv, w_irem, w_iand, w_ior, w_ixor, w_ishl, w_ishr, w_iushr, w_ineg, w_ladd, w_lsub, w_lmul, w_ldiv, w_lrem, w_lcmp, w_i2l, w_l2i, w_dup, w_pop, w_dup2, w_ieq, w_zeq, w_ine, w_zne, w_ilt, w_zlt, w_ige, w_zge, w_igt, w_zgt, w_ile, w_zle, w_cut, w_tsw, zsw, w_iret, w_zret, w_lret, w_vret, w_nret, w_getI, w_getJ, w_getR, w_putI, w_putZ, w_putJ, w_iald, w_zald, w_iast, w_zast, w_alen, w_sI, w_sJ, w_sV, w_vI, w_vJ, w_vV, w_tI, w_mmax, w_mmin, w_mabs, w_lmax, w_acopy, gL, sL, kl_i, kl_l, kl_r, kl_s, kl_m, qI_i, qJ_l, qA_r, qA_s, pI_i, pJ_l, pA_r, pS_s, pM_m, pV_v, c1_i, c1_r, c1_s, c1_m, cS_0, cS_i, cS_l, cS_r, cS_s, cS_m, pN, z_rc_r, zE1, zE2, zE3, true_and, and_true, Nat.zero_add, Nat.reduceAdd, Nat.reduceLeDiff, true_or, or_true, Int.reduceLE, Int.reduceLT, zcmp_l, zcmp_g, zcmp_e, zcmp_le, mo, mf0, mz0, mf1, mz1, mf2, mz2, mf6, mz6, mf10, mz10, mf11, mz11, mf12, mz12, mf13, mz13, mf14, mz14, mf16, mz16, mf17, mz17, mf18, mz18, mf19, mz19, mi3, mi7, mi8, mi9, mi15, mi4, mi5, mi20, ma125, mn125, ma126, mn126, ma127, mn127, ma128, mn128, ma129, mn129, ma130, mn130, ma131, mn131, ma132, mn132, ma133, mn133, ma134, mn134, ma135, mn135, ma136, mn136, ma137, mn137]
  refine m_isWindow h w.n2 (fun q => ⟨fun w => absurd w (by decide), fun _ => ?_⟩) (fun q => ⟨fun _ => ?_, fun w => absurd rfl w⟩)
  · rw [cIf_t q] at hP
    exact m_windowsOf h w (hP D Fr.rfl hM)
  · rw [cIf_f q] at hP
    exact m_bad hM hW hn hP
theorem m_greatest {b : Int} {v : Int → Int} {D : Mem} {P : Int → Mem → Prop} (b0 : 0 ≤ b) (b1 : b < 64) (hv : ∀ k, 0 ≤ k → k < 6 → D 137 k = v k) (hP : P (sGr b v) D) : zC miX6_greatest [zr 124, zi b] D P := by
  have outer : ∀ (r : Nat) (k : Int) (v4 v5 : AV), (6 - k).toNat = r → 0 ≤ k → k ≤ 6 → zW miX6_greatest P 4 [zr 124, zi b, zi (zMx k.toNat (fun k => zsum 6 (fun o => if zbt b k = 1 ∧ zbt b o = 1 ∧ v o = v k then 1 else 0))), zi k, v4, v5] D := by
    intro r
    induction r with
    | zero =>
      intro k v4 v5 hr k0 k1
      have e : k = 6 := by omega
      rw [e]
      refine sX6_greatest_4 _ _ _ _ _ ?_
      simp only [tX6_greatest_4, w_ic, w_lc, w_lds, w_ild, w_lld, w_ald, w_ist, w_lst, w_ast, w_iinc, w_iadd, w_isub, w_imul, w_idiv, w_irem, w_iand, w_ior, w_ixor, w_ishl, w_ishr, w_iushr, w_ineg, w_ladd, w_lsub, w_lmul, w_ldiv, w_lrem, w_lcmp, w_i2l, w_l2i, w_dup, w_pop, w_dup2, w_ieq, w_zeq, w_ine, w_zne, w_ilt, w_zlt, w_ige, w_zge, w_igt, w_zgt, w_ile, w_zle, w_cut, w_tsw, zsw, w_iret, w_zret, w_lret, w_vret, w_nret, w_getI, w_getJ, w_getR, w_putI, w_putZ, w_putJ, w_iald, w_zald, w_iast, w_zast, w_alen, w_sI, w_sJ, w_sV, w_vI, w_vJ, w_vV, w_tI, w_mmax, w_mmin, w_mabs, w_lmax, w_acopy, gL, sL, kl_i, kl_l, kl_r, kl_s, kl_m, qI_i, qJ_l, qA_r, qA_s, pI_i, pJ_l, pA_r, pS_s, pM_m, pV_v, c1_i, c1_r, c1_s, c1_m, cS_0, cS_i, cS_l, cS_r, cS_s, cS_m, pN, z_rc_r, zE1, zE2, zE3, true_and, and_true, Nat.zero_add, Nat.reduceAdd, Nat.reduceLeDiff, true_or, or_true, Int.reduceLE, Int.reduceLT, zcmp_l, zcmp_g, zcmp_e, zcmp_le, mo, mf0, mz0, mf1, mz1, mf2, mz2, mf6, mz6, mf10, mz10, mf11, mz11, mf12, mz12, mf13, mz13, mf14, mz14, mf16, mz16, mf17, mz17, mf18, mz18, mf19, mz19, mi3, mi7, mi8, mi9, mi15, mi4, mi5, mi20, ma125, mn125, ma126, mn126, ma127, mn127, ma128, mn128, ma129, mn129, ma130, mn130, ma131, mn131, ma132, mn132, ma133, mn133, ma134, mn134, ma135, mn135, ma136, mn136, ma137, mn137]
      exact ⟨fun _ => hP, fun w => absurd trivial w⟩
    | succ r ih =>
      intro k v4 v5 hr k0 k1
      have nx := fun v4 v5 => ih (k + 1) v4 v5 (by omega) (by omega) (by omega)
      rw [zMx_s k0] at nx
      have inner : ∀ (m : Nat) (o : Int), (6 - o).toNat = m → 0 ≤ o → o ≤ 6 → zW miX6_greatest P 16 [zr 124, zi b, zi (zMx k.toNat (fun k => zsum 6 (fun o => if zbt b k = 1 ∧ zbt b o = 1 ∧ v o = v k then 1 else 0))), zi k, zi (zsum o.toNat (fun o => if zbt b k = 1 ∧ zbt b o = 1 ∧ v o = v k then 1 else 0)), zi o] D := by
        intro m
        induction m with
        | zero =>
          intro o hm o0 o1
          have e : o = 6 := by omega
          rw [e, show (6 : Int).toNat = 6 from rfl]
          refine sX6_greatest_16 _ _ _ _ _ ?_
          simp only [tX6_greatest_16, w_ic, w_lc, w_lds, w_ild, w_lld, w_ald, w_ist, w_lst, w_ast, w_iinc, w_iadd, w_isub, w_imul, w_idiv, w_irem, w_iand, w_ior, w_ixor, w_ishl, w_ishr, w_iushr, w_ineg, w_ladd, w_lsub, w_lmul, w_ldiv, w_lrem, w_lcmp, w_i2l, w_l2i, w_dup, w_pop, w_dup2, w_ieq, w_zeq, w_ine, w_zne, w_ilt, w_zlt, w_ige, w_zge, w_igt, w_zgt, w_ile, w_zle, w_cut, w_tsw, zsw, w_iret, w_zret, w_lret, w_vret, w_nret, w_getI, w_getJ, w_getR, w_putI, w_putZ, w_putJ, w_iald, w_zald, w_iast, w_zast, w_alen, w_sI, w_sJ, w_sV, w_vI, w_vJ, w_vV, w_tI, w_mmax, w_mmin, w_mabs, w_lmax, w_acopy, gL, sL, kl_i, kl_l, kl_r, kl_s, kl_m, qI_i, qJ_l, qA_r, qA_s, pI_i, pJ_l, pA_r, pS_s, pM_m, pV_v, c1_i, c1_r, c1_s, c1_m, cS_0, cS_i, cS_l, cS_r, cS_s, cS_m, pN, z_rc_r, zE1, zE2, zE3, true_and, and_true, Nat.zero_add, Nat.reduceAdd, Nat.reduceLeDiff, true_or, or_true, Int.reduceLE, Int.reduceLT, zcmp_l, zcmp_g, zcmp_e, zcmp_le, mo, mf0, mz0, mf1, mz1, mf2, mz2, mf6, mz6, mf10, mz10, mf11, mz11, mf12, mz12, mf13, mz13, mf14, mz14, mf16, mz16, mf17, mz17, mf18, mz18, mf19, mz19, mi3, mi7, mi8, mi9, mi15, mi4, mi5, mi20, ma125, mn125, ma126, mn126, ma127, mn127, ma128, mn128, ma129, mn129, ma130, mn130, ma131, mn131, ma132, mn132, ma133, mn133, ma134, mn134, ma135, mn135, ma136, mn136, ma137, mn137]
          refine ⟨fun _ => ⟨fun q => ⟨⟨by omega, by omega⟩, ?_⟩, fun q => ⟨⟨by omega, by omega⟩, ?_⟩⟩, fun w => absurd trivial w⟩
          · have := nx (zi (zsum 6 (fun o => if zbt b k = 1 ∧ zbt b o = 1 ∧ v o = v k then 1 else 0))) (zi 6)
            rw [Int.max_eq_left q] at this
            exact this
          · have := nx (zi (zsum 6 (fun o => if zbt b k = 1 ∧ zbt b o = 1 ∧ v o = v k then 1 else 0))) (zi 6)
            rw [Int.max_eq_right (by have q' := Int.not_le.mp q; exact Int.le_of_lt q')] at this
            exact this
        | succ m ihm =>
          intro o hm o0 o1
          have zb : 0 ≤ zsum o.toNat (fun o => if zbt b k = 1 ∧ zbt b o = 1 ∧ v o = v k then (1 : Int) else 0) ∧ zsum o.toNat (fun o => if zbt b k = 1 ∧ zbt b o = 1 ∧ v o = v k then (1 : Int) else 0) ≤ (o.toNat : Int) * 1 := zsum_b _ (fun k _ _ => by split <;> omega)
          have ns := ihm (o + 1) (by omega) (by omega) (by omega)
          rw [zsum_s o0] at ns
          have st : ∀ x : Int, x = (if zbt b k = 1 ∧ zbt b o = 1 ∧ v o = v k then 1 else 0) → zR (zsum o.toNat (fun o => if zbt b k = 1 ∧ zbt b o = 1 ∧ v o = v k then 1 else 0) + x) ∧ zR (o + 1) ∧ zW miX6_greatest P 16 [zr 124, zi b, zi (zMx k.toNat (fun k => zsum 6 (fun o => if zbt b k = 1 ∧ zbt b o = 1 ∧ v o = v k then 1 else 0))), zi k, zi (zsum o.toNat (fun o => if zbt b k = 1 ∧ zbt b o = 1 ∧ v o = v k then 1 else 0) + x), zi (o + 1)] D := by
            intro x hx
            have hx1 : x = 0 ∨ x = 1 := by rw [hx]; split <;> omega
            subst hx
            exact ⟨⟨by omega, by omega⟩, ⟨by omega, by omega⟩, ns⟩
          refine sX6_greatest_16 _ _ _ _ _ ?_
          simp only [tX6_greatest_16, w_ic, w_lc, w_lds, w_ild, w_lld, w_ald, w_ist, w_lst, w_ast, w_iinc, w_iadd, w_isub, w_imul, w_idiv, w_irem, w_iand, w_ior, w_ixor, w_ishl, w_ishr, w_iushr, w_ineg, w_ladd, w_lsub, w_lmul, w_ldiv, w_lrem, w_lcmp, w_i2l, w_l2i, w_dup, w_pop, w_dup2, w_ieq, w_zeq, w_ine, w_zne, w_ilt, w_zlt, w_ige, w_zge, w_igt, w_zgt, w_ile, w_zle, w_cut, w_tsw, zsw, w_iret, w_zret, w_lret, w_vret, w_nret, w_getI, w_getJ, w_getR, w_putI, w_putZ, w_putJ, w_iald, w_zald, w_iast, w_zast, w_alen, w_sI, w_sJ, w_sV, w_vI, w_vJ, w_vV, w_tI, w_mmax, w_mmin, w_mabs, w_lmax, w_acopy, gL, sL, kl_i, kl_l, kl_r, kl_s, kl_m, qI_i, qJ_l, qA_r, qA_s, pI_i, pJ_l, pA_r, pS_s, pM_m, pV_v, c1_i, c1_r, c1_s, c1_m, cS_0, cS_i, cS_l, cS_r, cS_s, cS_m, pN, z_rc_r, zE1, zE2, zE3, true_and, and_true, Nat.zero_add, Nat.reduceAdd, Nat.reduceLeDiff, true_or, or_true, Int.reduceLE, Int.reduceLT, zcmp_l, zcmp_g, zcmp_e, zcmp_le, mo, mf0, mz0, mf1, mz1, mf2, mz2, mf6, mz6, mf10, mz10, mf11, mz11, mf12, mz12, mf13, mz13, mf14, mz14, mf16, mz16, mf17, mz17, mf18, mz18, mf19, mz19, mi3, mi7, mi8, mi9, mi15, mi4, mi5, mi20, ma125, mn125, ma126, mn126, ma127, mn127, ma128, mn128, ma129, mn129, ma130, mn130, ma131, mn131, ma132, mn132, ma133, mn133, ma134, mn134, ma135, mn135, ma136, mn136, ma137, mn137]
          refine ⟨fun w => absurd w (by omega), fun _ => ?_⟩
          refine m_has b0 (by omega) k0 (by omega) (fun q => ⟨fun w => absurd w (by decide), fun _ => ?_⟩) (fun q => ⟨fun _ => st 0 (by rw [if_neg (by omega)]), fun w => absurd rfl w⟩)
          refine m_has b0 (by omega) o0 (by omega) (fun q2 => ⟨fun w => absurd w (by decide), fun _ => ?_⟩) (fun q2 => ⟨fun _ => st 0 (by rw [if_neg (by omega)]), fun w => absurd rfl w⟩)
          rw [hv k k0 (by omega), hv o o0 (by omega)]
          exact ⟨k0, by omega, o0, by omega, fun q3 => st 0 (by rw [if_neg (fun w => q3 w.2.2.symm)]), fun q3 => st 1 (by rw [if_pos ⟨q, q2, (Decidable.not_not.mp q3).symm⟩])⟩
      refine sX6_greatest_4 _ _ _ _ _ ?_
      simp only [tX6_greatest_4, w_ic, w_lc, w_lds, w_ild, w_lld, w_ald, w_ist, w_lst, w_ast, w_iinc, w_iadd, w_isub, w_imul, w_idiv, w_irem, w_iand, w_ior, w_ixor, w_ishl, w_ishr, w_iushr, w_ineg, w_ladd, w_lsub, w_lmul, w_ldiv, w_lrem, w_lcmp, w_i2l, w_l2i, w_dup, w_pop, w_dup2, w_ieq, w_zeq, w_ine, w_zne, w_ilt, w_zlt, w_ige, w_zge, w_igt, w_zgt, w_ile, w_zle, w_cut, w_tsw, zsw, w_iret, w_zret, w_lret, w_vret, w_nret, w_getI, w_getJ, w_getR, w_putI, w_putZ, w_putJ, w_iald, w_zald, w_iast, w_zast, w_alen, w_sI, w_sJ, w_sV, w_vI, w_vJ, w_vV, w_tI, w_mmax, w_mmin, w_mabs, w_lmax, w_acopy, gL, sL, kl_i, kl_l, kl_r, kl_s, kl_m, qI_i, qJ_l, qA_r, qA_s, pI_i, pJ_l, pA_r, pS_s, pM_m, pV_v, c1_i, c1_r, c1_s, c1_m, cS_0, cS_i, cS_l, cS_r, cS_s, cS_m, pN, z_rc_r, zE1, zE2, zE3, true_and, and_true, Nat.zero_add, Nat.reduceAdd, Nat.reduceLeDiff, true_or, or_true, Int.reduceLE, Int.reduceLT, zcmp_l, zcmp_g, zcmp_e, zcmp_le, mo, mf0, mz0, mf1, mz1, mf2, mz2, mf6, mz6, mf10, mz10, mf11, mz11, mf12, mz12, mf13, mz13, mf14, mz14, mf16, mz16, mf17, mz17, mf18, mz18, mf19, mz19, mi3, mi7, mi8, mi9, mi15, mi4, mi5, mi20, ma125, mn125, ma126, mn126, ma127, mn127, ma128, mn128, ma129, mn129, ma130, mn130, ma131, mn131, ma132, mn132, ma133, mn133, ma134, mn134, ma135, mn135, ma136, mn136, ma137, mn137]
      exact ⟨fun w => absurd w (by omega), fun _ => inner 6 0 rfl (by omega) (by omega)⟩
  refine e_X6_greatest ?_
  simp only [tX6_greatest_0, w_ic, w_lc, w_lds, w_ild, w_lld, w_ald, w_ist, w_lst, w_ast, w_iinc, w_iadd, w_isub, w_imul, w_idiv, w_irem, w_iand, w_ior, w_ixor, w_ishl, w_ishr, w_iushr, w_ineg, w_ladd, w_lsub, w_lmul, w_ldiv, w_lrem, w_lcmp, w_i2l, w_l2i, w_dup, w_pop, w_dup2, w_ieq, w_zeq, w_ine, w_zne, w_ilt, w_zlt, w_ige, w_zge, w_igt, w_zgt, w_ile, w_zle, w_cut, w_tsw, zsw, w_iret, w_zret, w_lret, w_vret, w_nret, w_getI, w_getJ, w_getR, w_putI, w_putZ, w_putJ, w_iald, w_zald, w_iast, w_zast, w_alen, w_sI, w_sJ, w_sV, w_vI, w_vJ, w_vV, w_tI, w_mmax, w_mmin, w_mabs, w_lmax, w_acopy, gL, sL, kl_i, kl_l, kl_r, kl_s, kl_m, qI_i, qJ_l, qA_r, qA_s, pI_i, pJ_l, pA_r, pS_s, pM_m, pV_v, c1_i, c1_r, c1_s, c1_m, cS_0, cS_i, cS_l, cS_r, cS_s, cS_m, pN, z_rc_r, zE1, zE2, zE3, true_and, and_true, Nat.zero_add, Nat.reduceAdd, Nat.reduceLeDiff, true_or, or_true, Int.reduceLE, Int.reduceLT, zcmp_l, zcmp_g, zcmp_e, zcmp_le, mo, mf0, mz0, mf1, mz1, mf2, mz2, mf6, mz6, mf10, mz10, mf11, mz11, mf12, mz12, mf13, mz13, mf14, mz14, mf16, mz16, mf17, mz17, mf18, mz18, mf19, mz19, mi3, mi7, mi8, mi9, mi15, mi4, mi5, mi20, ma125, mn125, ma126, mn126, ma127, mn127, ma128, mn128, ma129, mn129, ma130, mn130, ma131, mn131, ma132, mn132, ma133, mn133, ma134, mn134, ma135, mn135, ma136, mn136, ma137, mn137]
  exact outer 6 0 _ _ rfl (by omega) (by omega)
theorem arg_step {c g : Int → Int} {t l : Int} (t0 : 0 ≤ t) (hg : 0 ≤ g t ∧ g t ≤ 6) (hl : l = if t = 0 then 1000000 else (sArg c g t.toNat).2) : (l ≤ g t → sArg c g (t + 1).toNat = sArg c g t.toNat ∧ l = (sArg c g (t + 1).toNat).2) ∧ (¬ l ≤ g t → sArg c g (t + 1).toNat = (c t, g t)) := by
  rw [sArg_s t0]
  by_cases e : t = 0
  · rw [if_pos e] at hl
    subst e
    refine ⟨fun q => by omega, fun _ => if_pos ?_⟩
    show g 0 < 7
    omega
  · rw [if_neg e] at hl
    refine ⟨fun q => ?_, fun q => if_pos (by omega)⟩
    rw [if_neg (by omega)]
    exact ⟨rfl, hl⟩
theorem m_look {n i : Int} {s : Mem} (hW : WS n s) (hn : n < 1000000) : mOK miX6_look [zr 124, zi i] s (r_look s i) := by
  intro D P hM hP
  have w := hW.1.1
  have h := hM.1
  unfold r_look at hP
  refine e_X6_look ?_
  simp only [tX6_look_0, w_ic, w_lc, w_lds, w_ild, w_lld, w_ald, w_ist, w_lst, w_ast, w_iinc, w_iadd, w_isub, w_imul, w_idiv, w_irem, w_iand, w_ior, w_ixor, w_ishl, w_ishr, w_iushr, w_ineg, w_ladd, w_lsub, w_lmul, w_ldiv, w_lrem, w_lcmp, w_i2l, w_l2i, w_dup, w_pop, w_dup2, w_ieq, w_zeq, w_ine, w_zne, w_ilt, w_zlt, w_ige, w_zge, w_igt, w_zgt, w_ile, w_zle, w_cut, w_tsw, zsw, w_iret, w_zret, w_lret, w_vret, w_nret, w_getI, w_getJ, w_getR, w_putI, w_putZ, w_putJ, w_iald, w_zald, w_iast, w_zast, w_alen, w_sI, w_sJ, w_sV, w_vI, w_vJ, w_vV, w_tI, w_mmax, w_mmin, w_mabs, w_lmax, w_acopy, gL, sL, kl_i, kl_l, kl_r, kl_s, kl_m, qI_i, qJ_l, qA_r, qA_s, pI_i, pJ_l, pA_r, pS_s, pM_m, pV_v, c1_i, c1_r, c1_s, c1_m, cS_0, cS_i, cS_l, cS_r, cS_s, cS_m, pN, z_rc_r, zE1, zE2, zE3, true_and, and_true, Nat.zero_add, Nat.reduceAdd, Nat.reduceLeDiff, true_or, or_true, Int.reduceLE, Int.reduceLT, zcmp_l, zcmp_g, zcmp_e, zcmp_le, mo, mf0, mz0, mf1, mz1, mf2, mz2, mf6, mz6, mf10, mz10, mf11, mz11, mf12, mz12, mf13, mz13, mf14, mz14, mf16, mz16, mf17, mz17, mf18, mz18, mf19, mz19, mi3, mi7, mi8, mi9, mi15, mi4, mi5, mi20, ma125, mn125, ma126, mn126, ma127, mn127, ma128, mn128, ma129, mn129, ma130, mn130, ma131, mn131, ma132, mn132, ma133, mn133, ma134, mn134, ma135, mn135, ma136, mn136, ma137, mn137]
  refine m_isGoer h w.n1 (fun q => ⟨fun _ => ?_, fun w => absurd (by decide) w⟩) (fun q => ⟨fun w => absurd rfl w, fun _ => ?_⟩)
  · rw [cIf_t q] at hP
    have hb := sGK_b (a := s 0) (i := i)
    refine m_kindsOf h w ?_
    generalize sGK (s 0) i = b at hP hb ⊢
    by_cases hb0 : b = 0
    · rw [cIf_t hb0] at hP
      refine sX6_look_30 _ _ _ _ _ ?_
      simp only [tX6_look_30, w_ic, w_lc, w_lds, w_ild, w_lld, w_ald, w_ist, w_lst, w_ast, w_iinc, w_iadd, w_isub, w_imul, w_idiv, w_irem, w_iand, w_ior, w_ixor, w_ishl, w_ishr, w_iushr, w_ineg, w_ladd, w_lsub, w_lmul, w_ldiv, w_lrem, w_lcmp, w_i2l, w_l2i, w_dup, w_pop, w_dup2, w_ieq, w_zeq, w_ine, w_zne, w_ilt, w_zlt, w_ige, w_zge, w_igt, w_zgt, w_ile, w_zle, w_cut, w_tsw, zsw, w_iret, w_zret, w_lret, w_vret, w_nret, w_getI, w_getJ, w_getR, w_putI, w_putZ, w_putJ, w_iald, w_zald, w_iast, w_zast, w_alen, w_sI, w_sJ, w_sV, w_vI, w_vJ, w_vV, w_tI, w_mmax, w_mmin, w_mabs, w_lmax, w_acopy, gL, sL, kl_i, kl_l, kl_r, kl_s, kl_m, qI_i, qJ_l, qA_r, qA_s, pI_i, pJ_l, pA_r, pS_s, pM_m, pV_v, c1_i, c1_r, c1_s, c1_m, cS_0, cS_i, cS_l, cS_r, cS_s, cS_m, pN, z_rc_r, zE1, zE2, zE3, true_and, and_true, Nat.zero_add, Nat.reduceAdd, Nat.reduceLeDiff, true_or, or_true, Int.reduceLE, Int.reduceLT, zcmp_l, zcmp_g, zcmp_e, zcmp_le, mo, mf0, mz0, mf1, mz1, mf2, mz2, mf6, mz6, mf10, mz10, mf11, mz11, mf12, mz12, mf13, mz13, mf14, mz14, mf16, mz16, mf17, mz17, mf18, mz18, mf19, mz19, mi3, mi7, mi8, mi9, mi15, mi4, mi5, mi20, ma125, mn125, ma126, mn126, ma127, mn127, ma128, mn128, ma129, mn129, ma130, mn130, ma131, mn131, ma132, mn132, ma133, mn133, ma134, mn134, ma135, mn135, ma136, mn136, ma137, mn137]
      exact ⟨fun w => absurd w (by decide), fun _ => ⟨fun _ => hP D Fr.rfl hM, fun w => absurd (by omega) w⟩⟩
    rw [cIf_f hb0] at hP
    have outer : ∀ (r : Nat) (t l : Int) (v6 : AV) (D1 : Mem), (10 - t).toNat = r → 0 ≤ t → t ≤ 10 → yF D D1 → (l = if t = 0 then 1000000 else (sArg (fun t => 10 * (t / 2) + t % 2) (fun t => sGr b (fun o => zLo o (t / 2) (t % 2))) t.toNat).2) → zW miX6_look P 30 [zr 124, zi i, zi b, zi (sArg (fun t => 10 * (t / 2) + t % 2) (fun t => sGr b (fun o => zLo o (t / 2) (t % 2))) t.toNat).1, zi l, zi t, v6] D1 := by
      intro r
      induction r with
      | zero =>
        intro t l v6 D1 hr t0 t1 hf hl
        have e : t = 10 := by omega
        have fin := hP D1 hf.fr (hM.s hf)
        refine sX6_look_30 _ _ _ _ _ ?_
        simp only [tX6_look_30, w_ic, w_lc, w_lds, w_ild, w_lld, w_ald, w_ist, w_lst, w_ast, w_iinc, w_iadd, w_isub, w_imul, w_idiv, w_irem, w_iand, w_ior, w_ixor, w_ishl, w_ishr, w_iushr, w_ineg, w_ladd, w_lsub, w_lmul, w_ldiv, w_lrem, w_lcmp, w_i2l, w_l2i, w_dup, w_pop, w_dup2, w_ieq, w_zeq, w_ine, w_zne, w_ilt, w_zlt, w_ige, w_zge, w_igt, w_zgt, w_ile, w_zle, w_cut, w_tsw, zsw, w_iret, w_zret, w_lret, w_vret, w_nret, w_getI, w_getJ, w_getR, w_putI, w_putZ, w_putJ, w_iald, w_zald, w_iast, w_zast, w_alen, w_sI, w_sJ, w_sV, w_vI, w_vJ, w_vV, w_tI, w_mmax, w_mmin, w_mabs, w_lmax, w_acopy, gL, sL, kl_i, kl_l, kl_r, kl_s, kl_m, qI_i, qJ_l, qA_r, qA_s, pI_i, pJ_l, pA_r, pS_s, pM_m, pV_v, c1_i, c1_r, c1_s, c1_m, cS_0, cS_i, cS_l, cS_r, cS_s, cS_m, pN, z_rc_r, zE1, zE2, zE3, true_and, and_true, Nat.zero_add, Nat.reduceAdd, Nat.reduceLeDiff, true_or, or_true, Int.reduceLE, Int.reduceLT, zcmp_l, zcmp_g, zcmp_e, zcmp_le, mo, mf0, mz0, mf1, mz1, mf2, mz2, mf6, mz6, mf10, mz10, mf11, mz11, mf12, mz12, mf13, mz13, mf14, mz14, mf16, mz16, mf17, mz17, mf18, mz18, mf19, mz19, mi3, mi7, mi8, mi9, mi15, mi4, mi5, mi20, ma125, mn125, ma126, mn126, ma127, mn127, ma128, mn128, ma129, mn129, ma130, mn130, ma131, mn131, ma132, mn132, ma133, mn133, ma134, mn134, ma135, mn135, ma136, mn136, ma137, mn137]
        refine ⟨fun _ => ?_, fun w => absurd (by omega) w⟩
        rw [e, show (10 : Int).toNat = 10 from rfl]
        unfold sLk at fin
        exact fin
      | succ r ih =>
        intro t l v6 D1 hr t0 t1 hf hl
        have gb := sGr_b b (fun o => zLo o (t / 2) (t % 2))
        have as := arg_step (c := (fun t => 10 * (t / 2) + t % 2)) (g := (fun t => sGr b (fun o => zLo o (t / 2) (t % 2)))) t0 gb hl
        have inner : ∀ (m : Nat) (k : Int) (D2 : Mem), (6 - k).toNat = m → 0 ≤ k → k ≤ 6 → yF D D2 → (∀ o, 0 ≤ o → o < k → D2 137 o = zLo o (t / 2) (t % 2)) → zW miX6_look P 44 [zr 124, zi i, zi b, zi (sArg (fun t => 10 * (t / 2) + t % 2) (fun t => sGr b (fun o => zLo o (t / 2) (t % 2))) t.toNat).1, zi l, zi t, zi k] D2 := by
          intro m
          induction m with
          | zero =>
            intro k D2 hm k0 k1 hf2 hv
            refine sX6_look_44 _ _ _ _ _ ?_
            simp only [tX6_look_44, w_ic, w_lc, w_lds, w_ild, w_lld, w_ald, w_ist, w_lst, w_ast, w_iinc, w_iadd, w_isub, w_imul, w_idiv, w_irem, w_iand, w_ior, w_ixor, w_ishl, w_ishr, w_iushr, w_ineg, w_ladd, w_lsub, w_lmul, w_ldiv, w_lrem, w_lcmp, w_i2l, w_l2i, w_dup, w_pop, w_dup2, w_ieq, w_zeq, w_ine, w_zne, w_ilt, w_zlt, w_ige, w_zge, w_igt, w_zgt, w_ile, w_zle, w_cut, w_tsw, zsw, w_iret, w_zret, w_lret, w_vret, w_nret, w_getI, w_getJ, w_getR, w_putI, w_putZ, w_putJ, w_iald, w_zald, w_iast, w_zast, w_alen, w_sI, w_sJ, w_sV, w_vI, w_vJ, w_vV, w_tI, w_mmax, w_mmin, w_mabs, w_lmax, w_acopy, gL, sL, kl_i, kl_l, kl_r, kl_s, kl_m, qI_i, qJ_l, qA_r, qA_s, pI_i, pJ_l, pA_r, pS_s, pM_m, pV_v, c1_i, c1_r, c1_s, c1_m, cS_0, cS_i, cS_l, cS_r, cS_s, cS_m, pN, z_rc_r, zE1, zE2, zE3, true_and, and_true, Nat.zero_add, Nat.reduceAdd, Nat.reduceLeDiff, true_or, or_true, Int.reduceLE, Int.reduceLT, zcmp_l, zcmp_g, zcmp_e, zcmp_le, mo, mf0, mz0, mf1, mz1, mf2, mz2, mf6, mz6, mf10, mz10, mf11, mz11, mf12, mz12, mf13, mz13, mf14, mz14, mf16, mz16, mf17, mz17, mf18, mz18, mf19, mz19, mi3, mi7, mi8, mi9, mi15, mi4, mi5, mi20, ma125, mn125, ma126, mn126, ma127, mn127, ma128, mn128, ma129, mn129, ma130, mn130, ma131, mn131, ma132, mn132, ma133, mn133, ma134, mn134, ma135, mn135, ma136, mn136, ma137, mn137]
            refine ⟨fun _ => m_greatest (v := fun o => zLo o (t / 2) (t % 2)) hb.1 hb.2 (fun o o0 o1 => hv o o0 (by omega)) ⟨fun q2 => ⟨fun _ => ⟨⟨by omega, by omega⟩, ?_⟩, fun w => absurd q2 w⟩, fun q2 => ?_⟩, fun w => absurd (by omega) w⟩
            · have nx := fun v6 => ih (t + 1) l v6 D2 (by omega) (by omega) (by omega) hf2 (by rw [if_neg (by omega)]; exact (as.1 q2).2)
              rw [(as.1 q2).1] at nx
              exact nx _
            · have nx := fun v6 => ih (t + 1) (sGr b (fun o => zLo o (t / 2) (t % 2))) v6 D2 (by omega) (by omega) (by omega) hf2 (by rw [if_neg (by omega), as.2 q2])
              rw [as.2 q2] at nx
              repeat' (with_reducible apply And.intro)
              all_goals first | omega | exact ⟨by omega, by omega⟩ | skip
              exact fun _ => ⟨⟨by omega, by omega⟩, nx _⟩
          | succ m ihm =>
            intro k D2 hm k0 k1 hf2 hv
            refine sX6_look_44 _ _ _ _ _ ?_
            simp only [tX6_look_44, w_ic, w_lc, w_lds, w_ild, w_lld, w_ald, w_ist, w_lst, w_ast, w_iinc, w_iadd, w_isub, w_imul, w_idiv, w_irem, w_iand, w_ior, w_ixor, w_ishl, w_ishr, w_iushr, w_ineg, w_ladd, w_lsub, w_lmul, w_ldiv, w_lrem, w_lcmp, w_i2l, w_l2i, w_dup, w_pop, w_dup2, w_ieq, w_zeq, w_ine, w_zne, w_ilt, w_zlt, w_ige, w_zge, w_igt, w_zgt, w_ile, w_zle, w_cut, w_tsw, zsw, w_iret, w_zret, w_lret, w_vret, w_nret, w_getI, w_getJ, w_getR, w_putI, w_putZ, w_putJ, w_iald, w_zald, w_iast, w_zast, w_alen, w_sI, w_sJ, w_sV, w_vI, w_vJ, w_vV, w_tI, w_mmax, w_mmin, w_mabs, w_lmax, w_acopy, gL, sL, kl_i, kl_l, kl_r, kl_s, kl_m, qI_i, qJ_l, qA_r, qA_s, pI_i, pJ_l, pA_r, pS_s, pM_m, pV_v, c1_i, c1_r, c1_s, c1_m, cS_0, cS_i, cS_l, cS_r, cS_s, cS_m, pN, z_rc_r, zE1, zE2, zE3, true_and, and_true, Nat.zero_add, Nat.reduceAdd, Nat.reduceLeDiff, true_or, or_true, Int.reduceLE, Int.reduceLT, zcmp_l, zcmp_g, zcmp_e, zcmp_le, mo, mf0, mz0, mf1, mz1, mf2, mz2, mf6, mz6, mf10, mz10, mf11, mz11, mf12, mz12, mf13, mz13, mf14, mz14, mf16, mz16, mf17, mz17, mf18, mz18, mf19, mz19, mi3, mi7, mi8, mi9, mi15, mi4, mi5, mi20, ma125, mn125, ma126, mn126, ma127, mn127, ma128, mn128, ma129, mn129, ma130, mn130, ma131, mn131, ma132, mn132, ma133, mn133, ma134, mn134, ma135, mn135, ma136, mn136, ma137, mn137]
            refine ⟨fun w => absurd w (by omega), fun _ => ?_⟩
            repeat' (with_reducible apply And.intro)
            all_goals first | omega | exact ⟨by omega, by omega⟩ | skip
            refine m_loudOf k0 (by omega) (by omega) (by omega) (by omega) ?_
            repeat' (with_reducible apply And.intro)
            all_goals first | omega | exact ⟨by omega, by omega⟩ | skip
            refine ihm (k + 1) _ (by omega) (by omega) (by omega) (hf2.trans (yF.up (by decide))) fun o o0 o1 => ?_
            by_cases e : o = k
            · rw [e, zU_s]
            · rw [zU_k e]; exact hv o o0 (by omega)
        refine sX6_look_30 _ _ _ _ _ ?_
        simp only [tX6_look_30, w_ic, w_lc, w_lds, w_ild, w_lld, w_ald, w_ist, w_lst, w_ast, w_iinc, w_iadd, w_isub, w_imul, w_idiv, w_irem, w_iand, w_ior, w_ixor, w_ishl, w_ishr, w_iushr, w_ineg, w_ladd, w_lsub, w_lmul, w_ldiv, w_lrem, w_lcmp, w_i2l, w_l2i, w_dup, w_pop, w_dup2, w_ieq, w_zeq, w_ine, w_zne, w_ilt, w_zlt, w_ige, w_zge, w_igt, w_zgt, w_ile, w_zle, w_cut, w_tsw, zsw, w_iret, w_zret, w_lret, w_vret, w_nret, w_getI, w_getJ, w_getR, w_putI, w_putZ, w_putJ, w_iald, w_zald, w_iast, w_zast, w_alen, w_sI, w_sJ, w_sV, w_vI, w_vJ, w_vV, w_tI, w_mmax, w_mmin, w_mabs, w_lmax, w_acopy, gL, sL, kl_i, kl_l, kl_r, kl_s, kl_m, qI_i, qJ_l, qA_r, qA_s, pI_i, pJ_l, pA_r, pS_s, pM_m, pV_v, c1_i, c1_r, c1_s, c1_m, cS_0, cS_i, cS_l, cS_r, cS_s, cS_m, pN, z_rc_r, zE1, zE2, zE3, true_and, and_true, Nat.zero_add, Nat.reduceAdd, Nat.reduceLeDiff, true_or, or_true, Int.reduceLE, Int.reduceLT, zcmp_l, zcmp_g, zcmp_e, zcmp_le, mo, mf0, mz0, mf1, mz1, mf2, mz2, mf6, mz6, mf10, mz10, mf11, mz11, mf12, mz12, mf13, mz13, mf14, mz14, mf16, mz16, mf17, mz17, mf18, mz18, mf19, mz19, mi3, mi7, mi8, mi9, mi15, mi4, mi5, mi20, ma125, mn125, ma126, mn126, ma127, mn127, ma128, mn128, ma129, mn129, ma130, mn130, ma131, mn131, ma132, mn132, ma133, mn133, ma134, mn134, ma135, mn135, ma136, mn136, ma137, mn137]
        exact ⟨fun w => absurd w (by omega), fun _ => ⟨fun w => absurd w (by omega), fun _ => inner 6 0 D1 rfl (by omega) (by omega) hf (fun o o0 o1 => by omega)⟩⟩
    exact outer 10 0 1000000 _ D rfl (by omega) (by omega) yF.rfl (by rw [if_pos rfl])
  · rw [cIf_f q] at hP
    exact m_bad hM hW hn hP
theorem m_ask {n i : Int} {s : Mem} (hW : WS n s) (hn : n < 1000000) : mOK miX6_ask [zr 124, zi i] s (r_ask s i) := by
  intro D P hM hP
  have w := hW.1.1
  have h := hM.1
  unfold r_ask at hP
  refine e_X6_ask ?_
  simp only [tX6_ask_0, w_ic, w_lc, w_lds, w_ild, w_lld, w_ald, w_ist, w_lst, w_ast, w_iinc, w_iadd, w_isub, w_imul, w_idiv, w_irem, w_iand, w_ior, w_ixor, w_ishl, w_ishr, w_iushr, w_ineg, w_ladd, w_lsub, w_lmul, w_ldiv, w_lrem, w_lcmp, w_i2l, w_l2i, w_dup, w_pop, w_dup2, w_ieq, w_zeq, w_ine, w_zne, w_ilt, w_zlt, w_ige, w_zge, w_igt, w_zgt, w_ile, w_zle, w_cut, w_tsw, zsw, w_iret, w_zret, w_lret, w_vret, w_nret, w_getI, w_getJ, w_getR, w_putI, w_putZ, w_putJ, w_iald, w_zald, w_iast, w_zast, w_alen, w_sI, w_sJ, w_sV, w_vI, w_vJ, w_vV, w_tI, w_mmax, w_mmin, w_mabs, w_lmax, w_acopy, gL, sL, kl_i, kl_l, kl_r, kl_s, kl_m, qI_i, qJ_l, qA_r, qA_s, pI_i, pJ_l, pA_r, pS_s, pM_m, pV_v, c1_i, c1_r, c1_s, c1_m, cS_0, cS_i, cS_l, cS_r, cS_s, cS_m, pN, z_rc_r, zE1, zE2, zE3, true_and, and_true, Nat.zero_add, Nat.reduceAdd, Nat.reduceLeDiff, true_or, or_true, Int.reduceLE, Int.reduceLT, zcmp_l, zcmp_g, zcmp_e, zcmp_le, mo, mf0, mz0, mf1, mz1, mf2, mz2, mf6, mz6, mf10, mz10, mf11, mz11, mf12, mz12, mf13, mz13, mf14, mz14, mf16, mz16, mf17, mz17, mf18, mz18, mf19, mz19, mi3, mi7, mi8, mi9, mi15, mi4, mi5, mi20, ma125, mn125, ma126, mn126, ma127, mn127, ma128, mn128, ma129, mn129, ma130, mn130, ma131, mn131, ma132, mn132, ma133, mn133, ma134, mn134, ma135, mn135, ma136, mn136, ma137, mn137]
  refine m_isWindow h w.n2 (fun q => ⟨fun _ => ?_, fun w => absurd (by decide) w⟩) (fun q => ⟨fun w => absurd rfl w, fun _ => ?_⟩)
  · rw [cIf_t q] at hP
    have hb := sWK_b (a := s 0) (i := i)
    refine m_windowsOf h w ?_
    generalize sWK (s 0) i = b at hP hb ⊢
    by_cases hb0 : b = 0
    · rw [cIf_t hb0] at hP
      refine sX6_ask_30 _ _ _ _ _ ?_
      simp only [tX6_ask_30, w_ic, w_lc, w_lds, w_ild, w_lld, w_ald, w_ist, w_lst, w_ast, w_iinc, w_iadd, w_isub, w_imul, w_idiv, w_irem, w_iand, w_ior, w_ixor, w_ishl, w_ishr, w_iushr, w_ineg, w_ladd, w_lsub, w_lmul, w_ldiv, w_lrem, w_lcmp, w_i2l, w_l2i, w_dup, w_pop, w_dup2, w_ieq, w_zeq, w_ine, w_zne, w_ilt, w_zlt, w_ige, w_zge, w_igt, w_zgt, w_ile, w_zle, w_cut, w_tsw, zsw, w_iret, w_zret, w_lret, w_vret, w_nret, w_getI, w_getJ, w_getR, w_putI, w_putZ, w_putJ, w_iald, w_zald, w_iast, w_zast, w_alen, w_sI, w_sJ, w_sV, w_vI, w_vJ, w_vV, w_tI, w_mmax, w_mmin, w_mabs, w_lmax, w_acopy, gL, sL, kl_i, kl_l, kl_r, kl_s, kl_m, qI_i, qJ_l, qA_r, qA_s, pI_i, pJ_l, pA_r, pS_s, pM_m, pV_v, c1_i, c1_r, c1_s, c1_m, cS_0, cS_i, cS_l, cS_r, cS_s, cS_m, pN, z_rc_r, zE1, zE2, zE3, true_and, and_true, Nat.zero_add, Nat.reduceAdd, Nat.reduceLeDiff, true_or, or_true, Int.reduceLE, Int.reduceLT, zcmp_l, zcmp_g, zcmp_e, zcmp_le, mo, mf0, mz0, mf1, mz1, mf2, mz2, mf6, mz6, mf10, mz10, mf11, mz11, mf12, mz12, mf13, mz13, mf14, mz14, mf16, mz16, mf17, mz17, mf18, mz18, mf19, mz19, mi3, mi7, mi8, mi9, mi15, mi4, mi5, mi20, ma125, mn125, ma126, mn126, ma127, mn127, ma128, mn128, ma129, mn129, ma130, mn130, ma131, mn131, ma132, mn132, ma133, mn133, ma134, mn134, ma135, mn135, ma136, mn136, ma137, mn137]
      exact ⟨fun w => absurd w (by decide), fun _ => ⟨fun _ => hP D Fr.rfl hM, fun w => absurd (by omega) w⟩⟩
    rw [cIf_f hb0] at hP
    have outer : ∀ (r : Nat) (t l : Int) (v6 : AV) (D1 : Mem), (80 - t).toNat = r → 0 ≤ t → t ≤ 80 → yF D D1 → (l = if t = 0 then 1000000 else (sArg (fun t => 10 * (t / 8) + t % 8) (fun t => sGr b (fun o => if 1 ≤ zHe o (t / 8) (t % 8) then 1 else 0)) t.toNat).2) → zW miX6_ask P 30 [zr 124, zi i, zi b, zi (sArg (fun t => 10 * (t / 8) + t % 8) (fun t => sGr b (fun o => if 1 ≤ zHe o (t / 8) (t % 8) then 1 else 0)) t.toNat).1, zi l, zi t, v6] D1 := by
      intro r
      induction r with
      | zero =>
        intro t l v6 D1 hr t0 t1 hf hl
        have e : t = 80 := by omega
        have fin := hP D1 hf.fr (hM.s hf)
        refine sX6_ask_30 _ _ _ _ _ ?_
        simp only [tX6_ask_30, w_ic, w_lc, w_lds, w_ild, w_lld, w_ald, w_ist, w_lst, w_ast, w_iinc, w_iadd, w_isub, w_imul, w_idiv, w_irem, w_iand, w_ior, w_ixor, w_ishl, w_ishr, w_iushr, w_ineg, w_ladd, w_lsub, w_lmul, w_ldiv, w_lrem, w_lcmp, w_i2l, w_l2i, w_dup, w_pop, w_dup2, w_ieq, w_zeq, w_ine, w_zne, w_ilt, w_zlt, w_ige, w_zge, w_igt, w_zgt, w_ile, w_zle, w_cut, w_tsw, zsw, w_iret, w_zret, w_lret, w_vret, w_nret, w_getI, w_getJ, w_getR, w_putI, w_putZ, w_putJ, w_iald, w_zald, w_iast, w_zast, w_alen, w_sI, w_sJ, w_sV, w_vI, w_vJ, w_vV, w_tI, w_mmax, w_mmin, w_mabs, w_lmax, w_acopy, gL, sL, kl_i, kl_l, kl_r, kl_s, kl_m, qI_i, qJ_l, qA_r, qA_s, pI_i, pJ_l, pA_r, pS_s, pM_m, pV_v, c1_i, c1_r, c1_s, c1_m, cS_0, cS_i, cS_l, cS_r, cS_s, cS_m, pN, z_rc_r, zE1, zE2, zE3, true_and, and_true, Nat.zero_add, Nat.reduceAdd, Nat.reduceLeDiff, true_or, or_true, Int.reduceLE, Int.reduceLT, zcmp_l, zcmp_g, zcmp_e, zcmp_le, mo, mf0, mz0, mf1, mz1, mf2, mz2, mf6, mz6, mf10, mz10, mf11, mz11, mf12, mz12, mf13, mz13, mf14, mz14, mf16, mz16, mf17, mz17, mf18, mz18, mf19, mz19, mi3, mi7, mi8, mi9, mi15, mi4, mi5, mi20, ma125, mn125, ma126, mn126, ma127, mn127, ma128, mn128, ma129, mn129, ma130, mn130, ma131, mn131, ma132, mn132, ma133, mn133, ma134, mn134, ma135, mn135, ma136, mn136, ma137, mn137]
        refine ⟨fun _ => ?_, fun w => absurd (by omega) w⟩
        rw [e, show (80 : Int).toNat = 80 from rfl]
        unfold sAk at fin
        generalize (80 : Nat) = N at fin ⊢
        exact fin
      | succ r ih =>
        intro t l v6 D1 hr t0 t1 hf hl
        have gb := sGr_b b (fun o => if 1 ≤ zHe o (t / 8) (t % 8) then 1 else 0)
        have as := arg_step (c := (fun t => 10 * (t / 8) + t % 8)) (g := (fun t => sGr b (fun o => if 1 ≤ zHe o (t / 8) (t % 8) then 1 else 0))) t0 gb hl
        have inner : ∀ (m : Nat) (k : Int) (D2 : Mem), (6 - k).toNat = m → 0 ≤ k → k ≤ 6 → yF D D2 → (∀ o, 0 ≤ o → o < k → D2 137 o = if 1 ≤ zHe o (t / 8) (t % 8) then 1 else 0) → zW miX6_ask P 44 [zr 124, zi i, zi b, zi (sArg (fun t => 10 * (t / 8) + t % 8) (fun t => sGr b (fun o => if 1 ≤ zHe o (t / 8) (t % 8) then 1 else 0)) t.toNat).1, zi l, zi t, zi k] D2 := by
          intro m
          induction m with
          | zero =>
            intro k D2 hm k0 k1 hf2 hv
            refine sX6_ask_44 _ _ _ _ _ ?_
            simp only [tX6_ask_44, w_ic, w_lc, w_lds, w_ild, w_lld, w_ald, w_ist, w_lst, w_ast, w_iinc, w_iadd, w_isub, w_imul, w_idiv, w_irem, w_iand, w_ior, w_ixor, w_ishl, w_ishr, w_iushr, w_ineg, w_ladd, w_lsub, w_lmul, w_ldiv, w_lrem, w_lcmp, w_i2l, w_l2i, w_dup, w_pop, w_dup2, w_ieq, w_zeq, w_ine, w_zne, w_ilt, w_zlt, w_ige, w_zge, w_igt, w_zgt, w_ile, w_zle, w_cut, w_tsw, zsw, w_iret, w_zret, w_lret, w_vret, w_nret, w_getI, w_getJ, w_getR, w_putI, w_putZ, w_putJ, w_iald, w_zald, w_iast, w_zast, w_alen, w_sI, w_sJ, w_sV, w_vI, w_vJ, w_vV, w_tI, w_mmax, w_mmin, w_mabs, w_lmax, w_acopy, gL, sL, kl_i, kl_l, kl_r, kl_s, kl_m, qI_i, qJ_l, qA_r, qA_s, pI_i, pJ_l, pA_r, pS_s, pM_m, pV_v, c1_i, c1_r, c1_s, c1_m, cS_0, cS_i, cS_l, cS_r, cS_s, cS_m, pN, z_rc_r, zE1, zE2, zE3, true_and, and_true, Nat.zero_add, Nat.reduceAdd, Nat.reduceLeDiff, true_or, or_true, Int.reduceLE, Int.reduceLT, zcmp_l, zcmp_g, zcmp_e, zcmp_le, mo, mf0, mz0, mf1, mz1, mf2, mz2, mf6, mz6, mf10, mz10, mf11, mz11, mf12, mz12, mf13, mz13, mf14, mz14, mf16, mz16, mf17, mz17, mf18, mz18, mf19, mz19, mi3, mi7, mi8, mi9, mi15, mi4, mi5, mi20, ma125, mn125, ma126, mn126, ma127, mn127, ma128, mn128, ma129, mn129, ma130, mn130, ma131, mn131, ma132, mn132, ma133, mn133, ma134, mn134, ma135, mn135, ma136, mn136, ma137, mn137]
            refine ⟨fun _ => m_greatest (v := fun o => if 1 ≤ zHe o (t / 8) (t % 8) then 1 else 0) hb.1 hb.2 (fun o o0 o1 => hv o o0 (by omega)) ⟨fun q2 => ⟨fun _ => ⟨⟨by omega, by omega⟩, ?_⟩, fun w => absurd q2 w⟩, fun q2 => ?_⟩, fun w => absurd (by omega) w⟩
            · have nx := fun v6 => ih (t + 1) l v6 D2 (by omega) (by omega) (by omega) hf2 (by rw [if_neg (by omega)]; exact (as.1 q2).2)
              rw [(as.1 q2).1] at nx
              exact nx _
            · have nx := fun v6 => ih (t + 1) (sGr b (fun o => if 1 ≤ zHe o (t / 8) (t % 8) then 1 else 0)) v6 D2 (by omega) (by omega) (by omega) hf2 (by rw [if_neg (by omega), as.2 q2])
              rw [as.2 q2] at nx
              repeat' (with_reducible apply And.intro)
              all_goals first | omega | exact ⟨by omega, by omega⟩ | skip
              exact fun _ => ⟨⟨by omega, by omega⟩, nx _⟩
          | succ m ihm =>
            intro k D2 hm k0 k1 hf2 hv
            refine sX6_ask_44 _ _ _ _ _ ?_
            simp only [tX6_ask_44, w_ic, w_lc, w_lds, w_ild, w_lld, w_ald, w_ist, w_lst, w_ast, w_iinc, w_iadd, w_isub, w_imul, w_idiv, w_irem, w_iand, w_ior, w_ixor, w_ishl, w_ishr, w_iushr, w_ineg, w_ladd, w_lsub, w_lmul, w_ldiv, w_lrem, w_lcmp, w_i2l, w_l2i, w_dup, w_pop, w_dup2, w_ieq, w_zeq, w_ine, w_zne, w_ilt, w_zlt, w_ige, w_zge, w_igt, w_zgt, w_ile, w_zle, w_cut, w_tsw, zsw, w_iret, w_zret, w_lret, w_vret, w_nret, w_getI, w_getJ, w_getR, w_putI, w_putZ, w_putJ, w_iald, w_zald, w_iast, w_zast, w_alen, w_sI, w_sJ, w_sV, w_vI, w_vJ, w_vV, w_tI, w_mmax, w_mmin, w_mabs, w_lmax, w_acopy, gL, sL, kl_i, kl_l, kl_r, kl_s, kl_m, qI_i, qJ_l, qA_r, qA_s, pI_i, pJ_l, pA_r, pS_s, pM_m, pV_v, c1_i, c1_r, c1_s, c1_m, cS_0, cS_i, cS_l, cS_r, cS_s, cS_m, pN, z_rc_r, zE1, zE2, zE3, true_and, and_true, Nat.zero_add, Nat.reduceAdd, Nat.reduceLeDiff, true_or, or_true, Int.reduceLE, Int.reduceLT, zcmp_l, zcmp_g, zcmp_e, zcmp_le, mo, mf0, mz0, mf1, mz1, mf2, mz2, mf6, mz6, mf10, mz10, mf11, mz11, mf12, mz12, mf13, mz13, mf14, mz14, mf16, mz16, mf17, mz17, mf18, mz18, mf19, mz19, mi3, mi7, mi8, mi9, mi15, mi4, mi5, mi20, ma125, mn125, ma126, mn126, ma127, mn127, ma128, mn128, ma129, mn129, ma130, mn130, ma131, mn131, ma132, mn132, ma133, mn133, ma134, mn134, ma135, mn135, ma136, mn136, ma137, mn137]
            refine ⟨fun w => absurd w (by omega), fun _ => ?_⟩
            repeat' (with_reducible apply And.intro)
            all_goals first | omega | exact ⟨by omega, by omega⟩ | skip
            refine m_isHeard k0 (by omega) (by omega) (by omega) (by omega) (by omega) ?_
            repeat' (with_reducible apply And.intro)
            all_goals first | omega | exact ⟨by omega, by omega⟩ | skip
            refine ihm (k + 1) _ (by omega) (by omega) (by omega) (hf2.trans (yF.up (by decide))) fun o o0 o1 => ?_
            by_cases e : o = k
            · rw [e, zU_s]
            · rw [zU_k e]; exact hv o o0 (by omega)
        refine sX6_ask_30 _ _ _ _ _ ?_
        simp only [tX6_ask_30, w_ic, w_lc, w_lds, w_ild, w_lld, w_ald, w_ist, w_lst, w_ast, w_iinc, w_iadd, w_isub, w_imul, w_idiv, w_irem, w_iand, w_ior, w_ixor, w_ishl, w_ishr, w_iushr, w_ineg, w_ladd, w_lsub, w_lmul, w_ldiv, w_lrem, w_lcmp, w_i2l, w_l2i, w_dup, w_pop, w_dup2, w_ieq, w_zeq, w_ine, w_zne, w_ilt, w_zlt, w_ige, w_zge, w_igt, w_zgt, w_ile, w_zle, w_cut, w_tsw, zsw, w_iret, w_zret, w_lret, w_vret, w_nret, w_getI, w_getJ, w_getR, w_putI, w_putZ, w_putJ, w_iald, w_zald, w_iast, w_zast, w_alen, w_sI, w_sJ, w_sV, w_vI, w_vJ, w_vV, w_tI, w_mmax, w_mmin, w_mabs, w_lmax, w_acopy, gL, sL, kl_i, kl_l, kl_r, kl_s, kl_m, qI_i, qJ_l, qA_r, qA_s, pI_i, pJ_l, pA_r, pS_s, pM_m, pV_v, c1_i, c1_r, c1_s, c1_m, cS_0, cS_i, cS_l, cS_r, cS_s, cS_m, pN, z_rc_r, zE1, zE2, zE3, true_and, and_true, Nat.zero_add, Nat.reduceAdd, Nat.reduceLeDiff, true_or, or_true, Int.reduceLE, Int.reduceLT, zcmp_l, zcmp_g, zcmp_e, zcmp_le, mo, mf0, mz0, mf1, mz1, mf2, mz2, mf6, mz6, mf10, mz10, mf11, mz11, mf12, mz12, mf13, mz13, mf14, mz14, mf16, mz16, mf17, mz17, mf18, mz18, mf19, mz19, mi3, mi7, mi8, mi9, mi15, mi4, mi5, mi20, ma125, mn125, ma126, mn126, ma127, mn127, ma128, mn128, ma129, mn129, ma130, mn130, ma131, mn131, ma132, mn132, ma133, mn133, ma134, mn134, ma135, mn135, ma136, mn136, ma137, mn137]
        exact ⟨fun w => absurd w (by omega), fun _ => ⟨fun w => absurd w (by omega), fun _ => inner 6 0 D1 rfl (by omega) (by omega) hf (fun o o0 o1 => by omega)⟩⟩
    exact outer 80 0 1000000 _ D rfl (by omega) (by omega) yF.rfl (by rw [if_pos rfl])
  · rw [cIf_f q] at hP
    exact m_bad hM hW hn hP
