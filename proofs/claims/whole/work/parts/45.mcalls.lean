/-! ===== 45: the model: its state; refusals; ladders, goers, windows, text ===== -/
def yT (D s : Mem) : Prop := (D 124 3 = s 4 0 ∧ ∀ j, 0 ≤ j → j < s 4 0 → D 127 j = s 3 j) ∧ (D 126 0 = s 4 1 ∧ D 126 1 = s 4 2) ∧ (D 128 0 = s 4 3 ∧ D 128 1 = s 4 4 ∧ D 128 2 = s 4 5) ∧ (D 124 4 = s 4 6 ∧ D 124 5 = s 4 7)
def yS (D s : Mem) : Prop := yR D 0 (s 0) ∧ (yR D 273 (s 1) ∧ yR D 546 (s 2)) ∧ yT D s
def yX (D D' : Mem) : Prop := (∀ o, (o < 124 ∨ 138 ≤ o ∨ o = 126 ∨ o = 127 ∨ o = 128) → D' o = D o) ∧ (∀ j : Int, j < 7 → D' 124 j = D 124 j)
def yF (D D' : Mem) : Prop := yX D D' ∧ ∀ j : Int, j < 819 → D' 125 j = D 125 j
def yN (D D' : Mem) : Prop := yX D D' ∧ ∀ j : Int, 273 ≤ j → j < 819 → D' 125 j = D 125 j
def yE (r : Int) (D D' : Mem) : Prop := (∀ o, o ≠ 125 → D' o = D o) ∧ ∀ j : Int, j < r ∨ r + 273 ≤ j → D' 125 j = D 125 j
theorem yX.rfl {D : Mem} : yX D D := ⟨fun _ _ => Eq.refl _, fun _ _ => Eq.refl _⟩
theorem yX.trans {D D1 D2 : Mem} (h : yX D D1) (h2 : yX D1 D2) : yX D D2 := ⟨fun o p => (h2.1 o p).trans (h.1 o p), fun j p => (h2.2 j p).trans (h.2 j p)⟩
theorem yF.rfl {D : Mem} : yF D D := ⟨yX.rfl, fun _ _ => Eq.refl _⟩
theorem yF.trans {D D1 D2 : Mem} (h : yF D D1) (h2 : yF D1 D2) : yF D D2 := ⟨h.1.trans h2.1, fun j p => (h2.2 j p).trans (h.2 j p)⟩
theorem yN.rfl {D : Mem} : yN D D := ⟨yX.rfl, fun _ _ _ => Eq.refl _⟩
theorem yN.trans {D D1 D2 : Mem} (h : yN D D1) (h2 : yN D1 D2) : yN D D2 := ⟨h.1.trans h2.1, fun j p q => (h2.2 j p q).trans (h.2 j p q)⟩
theorem yF.n {D D' : Mem} (h : yF D D') : yN D D' := ⟨h.1, fun j _ q => h.2 j q⟩
theorem yE.rfl {r : Int} {D : Mem} : yE r D D := ⟨fun _ _ => Eq.refl _, fun _ _ => Eq.refl _⟩
theorem yE.trans {r : Int} {D D1 D2 : Mem} (h : yE r D D1) (h2 : yE r D1 D2) : yE r D D2 := ⟨fun o p => (h2.1 o p).trans (h.1 o p), fun j p => (h2.2 j p).trans (h.2 j p)⟩
theorem yE.up {r k x : Int} {D : Mem} (h0 : r ≤ k) (h1 : k < r + 273) : yE r D (zU D 125 k x) := ⟨fun o p => zU_ne p, fun j p => zU_k (by omega)⟩
theorem yX.of5 {D D' : Mem} (h : ∀ o, o ≠ 125 → D' o = D o) : yX D D' := ⟨fun o p => h o (by omega), fun j _ => by rw [h 124 (by decide)]⟩
theorem yE.n {D D' : Mem} (h : yE 0 D D') : yN D D' := ⟨yX.of5 h.1, fun j p q => h.2 j (Or.inr (by omega))⟩
theorem yE.s {D D' : Mem} (h : yE 819 D D') : yF D D' := ⟨yX.of5 h.1, fun j p => h.2 j (Or.inl p)⟩
theorem yP.x {r : Int} {D D' : Mem} (h : yP r D D') : yX D D' := ⟨fun o p => h.1 o (by omega) (by omega) (by omega) (by omega), fun j _ => by rw [h.1 124 (by decide) (by decide) (by decide) (by decide)]⟩
theorem yP.n {D D' : Mem} (h : yP 0 D D') : yN D D' := ⟨h.x, fun j p q => h.2 j (Or.inr (by omega))⟩
theorem yP.s {r : Int} {D D' : Mem} (h : yP r D D') (hr : 819 ≤ r) : yF D D' := ⟨h.x, fun j p => h.2 j (Or.inl (by omega))⟩
theorem yA.s {D D' : Mem} (h : yA D D') : yF D D' := (h.p (r := 1092)).s (by decide)
theorem yF.up {D : Mem} {o : Nat} {k x : Int} (h : 129 ≤ o ∧ o < 138) : yF D (zU D o k x) := ⟨⟨fun o' p => zU_ne (by omega), fun j _ => zU_o (by omega)⟩, fun j _ => zU_o (by omega)⟩
theorem yF.u5 {D : Mem} {k x : Int} (h : 819 ≤ k) : yF D (zU D 125 k x) := ⟨yX.of5 fun o p => zU_ne p, fun j p => zU_k (by omega)⟩
theorem yF.u4 {D : Mem} {k x : Int} (h : 7 ≤ k) : yF D (zU D 124 k x) := ⟨⟨fun o p => zU_ne (by omega), fun j p => zU_k (by omega)⟩, fun j _ => zU_o (by decide)⟩
theorem yN.fr {D D' : Mem} (h : yN D D') : Fr 124 138 D D' := fun o p => h.1.1 o (by omega)
theorem yF.fr {D D' : Mem} (h : yF D D') : Fr 124 138 D D' := h.n.fr
theorem yT.x {D D' s : Mem} (h : yT D s) (f : yX D D') : yT D' s := by
  unfold yT
  rw [f.2 3 (by decide), f.2 4 (by decide), f.2 5 (by decide), f.1 126 (by omega), f.1 127 (by omega), f.1 128 (by omega)]
  exact h
theorem yS.s {D D' s : Mem} (h : yS D s) (f : yF D D') : yS D' s := ⟨fun j p q => by rw [f.2 _ (by omega)]; exact h.1 j p q, ⟨fun j p q => by rw [f.2 _ (by omega)]; exact h.2.1.1 j p q, fun j p q => by rw [f.2 _ (by omega)]; exact h.2.1.2 j p q⟩, h.2.2.x f.1⟩
theorem yS.now {D D' s : Mem} {a : Int → Int} (h : yS D s) (f : yN D D') (hR : yR D' 0 a) : yS D' (sU s 0 a) := by
  refine ⟨by rw [sU_s]; exact hR, ⟨fun j p q => ?_, fun j p q => ?_⟩, ?_⟩
  · rw [f.2 _ (by omega) (by omega), sU_n (by decide)]; exact h.2.1.1 j p q
  · rw [f.2 _ (by omega) (by omega), sU_n (by decide)]; exact h.2.1.2 j p q
  · unfold yT
    rw [sU_n (by decide), sU_n (by decide)]
    exact h.2.2.x f.1
theorem yR.up {D : Mem} {r k k' x : Int} {a : Int → Int} (h : yR D r a) (e : k' = r + k) : yR (zU D 125 k' x) r (zA a k x) := by
  intro j p q
  by_cases g : j = k
  · rw [g, e, zU_s, zA_s]
  · rw [zU_k (by omega), zA_n g]
    exact h j p q
theorem yQ.up {D : Mem} {r k k' x : Int} {a : Int → Int} (h : yQ D r a) (e : k' = r + k) : yQ (zU D 125 k' x) r (zA a k x) := by
  intro j p q
  by_cases g : j = k
  · rw [g, e, zU_s, zA_s]
  · rw [zU_k (by omega), zA_n g]
    exact h j p q
theorem yR.o {D : Mem} {r k x : Int} {o : Nat} {a : Int → Int} (h : yR D r a) (e : o ≠ 125) : yR (zU D o k x) r a := by
  unfold yR
  rw [zU_ne (Ne.symm e)]
  exact h
theorem yR.z {D : Mem} {a : Int → Int} (h : yR D 0 a) {j : Int} (h0 : 0 ≤ j) (h1 : j < 273) : D 125 j = a j := by
  have := h j h0 h1
  rw [Int.zero_add] at this
  exact this
abbrev mOK (M : MI) (as : List AV) (s : Mem) (r : Int × Mem) : Prop := ∀ ⦃D : Mem⦄ ⦃P : Int → Mem → Prop⦄, yS D s → (∀ D', Fr 124 138 D D' → yS D' r.2 → P r.1 D') → zC M as D P
theorem yS.rf {D s : Mem} {k : Int} (h : yS D s) (hk : k = 0 ∨ k = 1 ∨ k = 2) : yS (zU D 128 k (s 4 (3 + k) + 1)) (sRf s (3 + k)) := by
  obtain ⟨h1, ⟨h2, h3⟩, h5, h6, ⟨h9, h10, h11⟩, h12⟩ := h
  have n : ∀ j, j ≠ 3 + k → zA (s 4) (3 + k) (s 4 (3 + k) + 1) j = s 4 j := fun j q => zA_n q
  unfold sRf
  refine ⟨?_, ⟨?_, ?_⟩, ?_⟩
  · rw [sU_n (by decide)]; exact h1.o (by decide)
  · rw [sU_n (by decide)]; exact h2.o (by decide)
  · rw [sU_n (by decide)]; exact h3.o (by decide)
  · unfold yT
    rw [sU_s, sU_n (by decide), zU_ne (o' := 124) (by decide), zU_ne (o' := 126) (by decide), zU_ne (o' := 127) (by decide), n 0 (by omega), n 1 (by omega), n 2 (by omega), n 6 (by omega), n 7 (by omega)]
    refine ⟨h5, h6, ?_, h12⟩
    rcases hk with q | q | q <;> subst q
    · exact ⟨by rw [zU_s, show (3 : Int) + 0 = 3 from rfl, zA_s], by rw [zU_k (by decide), zA_n (by decide)]; exact h10, by rw [zU_k (by decide), zA_n (by decide)]; exact h11⟩
    · exact ⟨by rw [zU_k (by decide), zA_n (by decide)]; exact h9, by rw [zU_s, show (3 : Int) + 1 = 4 from rfl, zA_s], by rw [zU_k (by decide), zA_n (by decide)]; exact h11⟩
    · exact ⟨by rw [zU_k (by decide), zA_n (by decide)]; exact h9, by rw [zU_k (by decide), zA_n (by decide)]; exact h10, by rw [zU_s, show (3 : Int) + 2 = 5 from rfl, zA_s]⟩
theorem m_bad {n x : Int} {D s : Mem} {P : Int → Mem → Prop} (hM : yS D s) (hW : WS n s) (hn : n < 1000000) (hP : ∀ D', Fr 124 138 D D' → yS D' (sRf s 3) → P x D') : zC miX6_bad [zr 124, zi x] D P := by
  have e := hM.2.2.2.2.1
  have w := hW.2.2.2
  refine e_X6_bad ?_
  simp only [tX6_bad_0, w_ic, w_lc, w_lds, w_ild, w_lld, w_ald, w_ist, w_lst, w_ast, w_iinc, w_iadd, w_isub, w_imul, w_idiv, w_irem, w_iand, w_ior, w_ixor, w_ishl, w_ishr, w_iushr, w_ineg, w_ladd, w_lsub, w_lmul, w_ldiv, w_lrem, w_lcmp, w_i2l, w_l2i, w_dup, w_pop, w_dup2, w_ieq, w_zeq, w_ine, w_zne, w_ilt, w_zlt, w_ige, w_zge, w_igt, w_zgt, w_ile, w_zle, w_cut, w_tsw, zsw, w_iret, w_zret, w_lret, w_vret, w_nret, w_getI, w_getJ, w_getR, w_putI, w_putZ, w_putJ, w_iald, w_zald, w_iast, w_zast, w_alen, w_sI, w_sJ, w_sV, w_vI, w_vJ, w_vV, w_tI, w_mmax, w_mmin, w_mabs, w_lmax, w_acopy, gL, sL, kl_i, kl_l, kl_r, kl_s, kl_m, qI_i, qJ_l, qA_r, qA_s, pI_i, pJ_l, pA_r, pS_s, pM_m, pV_v, c1_i, c1_r, c1_s, c1_m, cS_0, cS_i, cS_l, cS_r, cS_s, cS_m, pN, z_rc_r, zE1, zE2, zE3, true_and, and_true, Nat.zero_add, Nat.reduceAdd, Nat.reduceLeDiff, true_or, or_true, Int.reduceLE, Int.reduceLT, zcmp_l, zcmp_g, zcmp_e, zcmp_le, mo, mf0, mz0, mf1, mz1, mf2, mz2, mf6, mz6, mf10, mz10, mf11, mz11, mf12, mz12, mf13, mz13, mf14, mz14, mf16, mz16, mf17, mz17, mf18, mz18, mf19, mz19, mi3, mi7, mi8, mi9, mi15, mi4, mi5, mi20, ma125, mn125, ma126, mn126, ma127, mn127, ma128, mn128, ma129, mn129, ma130, mn130, ma131, mn131, ma132, mn132, ma133, mn133, ma134, mn134, ma135, mn135, ma136, mn136, ma137, mn137]
  rw [e.1]
  exact ⟨⟨by omega, by omega⟩, hP _ (Fr.up (by omega) (by omega)) (hM.rf (k := 0) (by omega))⟩
theorem m_no {n : Int} {D s : Mem} {P : Int → Mem → Prop} (hM : yS D s) (hW : WS n s) (hn : n < 1000000) (hP : ∀ D', Fr 124 138 D D' → yS D' (sRf s 4) → P (-3) D') : zC miX6_no [zr 124] D P := by
  have e := hM.2.2.2.2.1
  have w := hW.2.2.2
  refine e_X6_no ?_
  simp only [tX6_no_0, w_ic, w_lc, w_lds, w_ild, w_lld, w_ald, w_ist, w_lst, w_ast, w_iinc, w_iadd, w_isub, w_imul, w_idiv, w_irem, w_iand, w_ior, w_ixor, w_ishl, w_ishr, w_iushr, w_ineg, w_ladd, w_lsub, w_lmul, w_ldiv, w_lrem, w_lcmp, w_i2l, w_l2i, w_dup, w_pop, w_dup2, w_ieq, w_zeq, w_ine, w_zne, w_ilt, w_zlt, w_ige, w_zge, w_igt, w_zgt, w_ile, w_zle, w_cut, w_tsw, zsw, w_iret, w_zret, w_lret, w_vret, w_nret, w_getI, w_getJ, w_getR, w_putI, w_putZ, w_putJ, w_iald, w_zald, w_iast, w_zast, w_alen, w_sI, w_sJ, w_sV, w_vI, w_vJ, w_vV, w_tI, w_mmax, w_mmin, w_mabs, w_lmax, w_acopy, gL, sL, kl_i, kl_l, kl_r, kl_s, kl_m, qI_i, qJ_l, qA_r, qA_s, pI_i, pJ_l, pA_r, pS_s, pM_m, pV_v, c1_i, c1_r, c1_s, c1_m, cS_0, cS_i, cS_l, cS_r, cS_s, cS_m, pN, z_rc_r, zE1, zE2, zE3, true_and, and_true, Nat.zero_add, Nat.reduceAdd, Nat.reduceLeDiff, true_or, or_true, Int.reduceLE, Int.reduceLT, zcmp_l, zcmp_g, zcmp_e, zcmp_le, mo, mf0, mz0, mf1, mz1, mf2, mz2, mf6, mz6, mf10, mz10, mf11, mz11, mf12, mz12, mf13, mz13, mf14, mz14, mf16, mz16, mf17, mz17, mf18, mz18, mf19, mz19, mi3, mi7, mi8, mi9, mi15, mi4, mi5, mi20, ma125, mn125, ma126, mn126, ma127, mn127, ma128, mn128, ma129, mn129, ma130, mn130, ma131, mn131, ma132, mn132, ma133, mn133, ma134, mn134, ma135, mn135, ma136, mn136, ma137, mn137]
  rw [e.2.1]
  exact ⟨⟨by omega, by omega⟩, hP _ (Fr.up (by omega) (by omega)) (hM.rf (k := 1) (by omega))⟩
theorem m_full {n : Int} {D s : Mem} {P : Int → Mem → Prop} (hM : yS D s) (hW : WS n s) (hn : n < 1000000) (hP : ∀ D', Fr 124 138 D D' → yS D' (sRf s 5) → P (-4) D') : zC miX6_full [zr 124] D P := by
  have e := hM.2.2.2.2.1
  have w := hW.2.2.2
  refine e_X6_full ?_
  simp only [tX6_full_0, w_ic, w_lc, w_lds, w_ild, w_lld, w_ald, w_ist, w_lst, w_ast, w_iinc, w_iadd, w_isub, w_imul, w_idiv, w_irem, w_iand, w_ior, w_ixor, w_ishl, w_ishr, w_iushr, w_ineg, w_ladd, w_lsub, w_lmul, w_ldiv, w_lrem, w_lcmp, w_i2l, w_l2i, w_dup, w_pop, w_dup2, w_ieq, w_zeq, w_ine, w_zne, w_ilt, w_zlt, w_ige, w_zge, w_igt, w_zgt, w_ile, w_zle, w_cut, w_tsw, zsw, w_iret, w_zret, w_lret, w_vret, w_nret, w_getI, w_getJ, w_getR, w_putI, w_putZ, w_putJ, w_iald, w_zald, w_iast, w_zast, w_alen, w_sI, w_sJ, w_sV, w_vI, w_vJ, w_vV, w_tI, w_mmax, w_mmin, w_mabs, w_lmax, w_acopy, gL, sL, kl_i, kl_l, kl_r, kl_s, kl_m, qI_i, qJ_l, qA_r, qA_s, pI_i, pJ_l, pA_r, pS_s, pM_m, pV_v, c1_i, c1_r, c1_s, c1_m, cS_0, cS_i, cS_l, cS_r, cS_s, cS_m, pN, z_rc_r, zE1, zE2, zE3, true_and, and_true, Nat.zero_add, Nat.reduceAdd, Nat.reduceLeDiff, true_or, or_true, Int.reduceLE, Int.reduceLT, zcmp_l, zcmp_g, zcmp_e, zcmp_le, mo, mf0, mz0, mf1, mz1, mf2, mz2, mf6, mz6, mf10, mz10, mf11, mz11, mf12, mz12, mf13, mz13, mf14, mz14, mf16, mz16, mf17, mz17, mf18, mz18, mf19, mz19, mi3, mi7, mi8, mi9, mi15, mi4, mi5, mi20, ma125, mn125, ma126, mn126, ma127, mn127, ma128, mn128, ma129, mn129, ma130, mn130, ma131, mn131, ma132, mn132, ma133, mn133, ma134, mn134, ma135, mn135, ma136, mn136, ma137, mn137]
  rw [e.2.2]
  exact ⟨⟨by omega, by omega⟩, hP _ (Fr.up (by omega) (by omega)) (hM.rf (k := 2) (by omega))⟩
theorem m_isGoer {i : Int} {a : Int → Int} {D : Mem} {P : Int → Mem → Prop} (h : yR D 0 a) (n1 : 0 ≤ a 1 ∧ a 1 ≤ 6) (h1 : 0 ≤ i ∧ i < a 1 → P 1 D) (h0 : ¬ (0 ≤ i ∧ i < a 1) → P 0 D) : zC miX6_isGoer [zr 124, zi i] D P := by
  refine e_X6_isGoer ?_
  simp only [tX6_isGoer_0, w_ic, w_lc, w_lds, w_ild, w_lld, w_ald, w_ist, w_lst, w_ast, w_iinc, w_iadd, w_isub, w_imul, w_idiv, w_irem, w_iand, w_ior, w_ixor, w_ishl, w_ishr, w_iushr, w_ineg, w_ladd, w_lsub, w_lmul, w_ldiv, w_lrem, w_lcmp, w_i2l, w_l2i, w_dup, w_pop, w_dup2, w_ieq, w_zeq, w_ine, w_zne, w_ilt, w_zlt, w_ige, w_zge, w_igt, w_zgt, w_ile, w_zle, w_cut, w_tsw, zsw, w_iret, w_zret, w_lret, w_vret, w_nret, w_getI, w_getJ, w_getR, w_putI, w_putZ, w_putJ, w_iald, w_zald, w_iast, w_zast, w_alen, w_sI, w_sJ, w_sV, w_vI, w_vJ, w_vV, w_tI, w_mmax, w_mmin, w_mabs, w_lmax, w_acopy, gL, sL, kl_i, kl_l, kl_r, kl_s, kl_m, qI_i, qJ_l, qA_r, qA_s, pI_i, pJ_l, pA_r, pS_s, pM_m, pV_v, c1_i, c1_r, c1_s, c1_m, cS_0, cS_i, cS_l, cS_r, cS_s, cS_m, pN, z_rc_r, zE1, zE2, zE3, true_and, and_true, Nat.zero_add, Nat.reduceAdd, Nat.reduceLeDiff, true_or, or_true, Int.reduceLE, Int.reduceLT, zcmp_l, zcmp_g, zcmp_e, zcmp_le, mo, mf0, mz0, mf1, mz1, mf2, mz2, mf6, mz6, mf10, mz10, mf11, mz11, mf12, mz12, mf13, mz13, mf14, mz14, mf16, mz16, mf17, mz17, mf18, mz18, mf19, mz19, mi3, mi7, mi8, mi9, mi15, mi4, mi5, mi20, ma125, mn125, ma126, mn126, ma127, mn127, ma128, mn128, ma129, mn129, ma130, mn130, ma131, mn131, ma132, mn132, ma133, mn133, ma134, mn134, ma135, mn135, ma136, mn136, ma137, mn137]
  rw [h.z (by omega) (by omega)]
  exact ⟨⟨by omega, by omega⟩, m_in (fun q => ⟨Or.inr rfl, h1 (by omega)⟩) (fun q => ⟨Or.inl rfl, h0 (by omega)⟩)⟩
theorem m_isWindow {i : Int} {a : Int → Int} {D : Mem} {P : Int → Mem → Prop} (h : yR D 0 a) (n1 : 0 ≤ a 2 ∧ a 2 ≤ 4) (h1 : 0 ≤ i ∧ i < a 2 → P 1 D) (h0 : ¬ (0 ≤ i ∧ i < a 2) → P 0 D) : zC miX6_isWindow [zr 124, zi i] D P := by
  refine e_X6_isWindow ?_
  simp only [tX6_isWindow_0, w_ic, w_lc, w_lds, w_ild, w_lld, w_ald, w_ist, w_lst, w_ast, w_iinc, w_iadd, w_isub, w_imul, w_idiv, w_irem, w_iand, w_ior, w_ixor, w_ishl, w_ishr, w_iushr, w_ineg, w_ladd, w_lsub, w_lmul, w_ldiv, w_lrem, w_lcmp, w_i2l, w_l2i, w_dup, w_pop, w_dup2, w_ieq, w_zeq, w_ine, w_zne, w_ilt, w_zlt, w_ige, w_zge, w_igt, w_zgt, w_ile, w_zle, w_cut, w_tsw, zsw, w_iret, w_zret, w_lret, w_vret, w_nret, w_getI, w_getJ, w_getR, w_putI, w_putZ, w_putJ, w_iald, w_zald, w_iast, w_zast, w_alen, w_sI, w_sJ, w_sV, w_vI, w_vJ, w_vV, w_tI, w_mmax, w_mmin, w_mabs, w_lmax, w_acopy, gL, sL, kl_i, kl_l, kl_r, kl_s, kl_m, qI_i, qJ_l, qA_r, qA_s, pI_i, pJ_l, pA_r, pS_s, pM_m, pV_v, c1_i, c1_r, c1_s, c1_m, cS_0, cS_i, cS_l, cS_r, cS_s, cS_m, pN, z_rc_r, zE1, zE2, zE3, true_and, and_true, Nat.zero_add, Nat.reduceAdd, Nat.reduceLeDiff, true_or, or_true, Int.reduceLE, Int.reduceLT, zcmp_l, zcmp_g, zcmp_e, zcmp_le, mo, mf0, mz0, mf1, mz1, mf2, mz2, mf6, mz6, mf10, mz10, mf11, mz11, mf12, mz12, mf13, mz13, mf14, mz14, mf16, mz16, mf17, mz17, mf18, mz18, mf19, mz19, mi3, mi7, mi8, mi9, mi15, mi4, mi5, mi20, ma125, mn125, ma126, mn126, ma127, mn127, ma128, mn128, ma129, mn129, ma130, mn130, ma131, mn131, ma132, mn132, ma133, mn133, ma134, mn134, ma135, mn135, ma136, mn136, ma137, mn137]
  rw [h.z (by omega) (by omega)]
  exact ⟨⟨by omega, by omega⟩, m_in (fun q => ⟨Or.inr rfl, h1 (by omega)⟩) (fun q => ⟨Or.inl rfl, h0 (by omega)⟩)⟩
theorem m_isLadder {i : Int} {a : Int → Int} {D : Mem} {P : Int → Mem → Prop} (h : yR D 0 a) (n1 : 0 ≤ a 0 ∧ a 0 ≤ 6) (h1 : 0 ≤ i ∧ i < a 0 → P 1 D) (h0 : ¬ (0 ≤ i ∧ i < a 0) → P 0 D) : zC miX6_isLadder [zr 124, zi i] D P := by
  refine e_X6_isLadder ?_
  simp only [tX6_isLadder_0, w_ic, w_lc, w_lds, w_ild, w_lld, w_ald, w_ist, w_lst, w_ast, w_iinc, w_iadd, w_isub, w_imul, w_idiv, w_irem, w_iand, w_ior, w_ixor, w_ishl, w_ishr, w_iushr, w_ineg, w_ladd, w_lsub, w_lmul, w_ldiv, w_lrem, w_lcmp, w_i2l, w_l2i, w_dup, w_pop, w_dup2, w_ieq, w_zeq, w_ine, w_zne, w_ilt, w_zlt, w_ige, w_zge, w_igt, w_zgt, w_ile, w_zle, w_cut, w_tsw, zsw, w_iret, w_zret, w_lret, w_vret, w_nret, w_getI, w_getJ, w_getR, w_putI, w_putZ, w_putJ, w_iald, w_zald, w_iast, w_zast, w_alen, w_sI, w_sJ, w_sV, w_vI, w_vJ, w_vV, w_tI, w_mmax, w_mmin, w_mabs, w_lmax, w_acopy, gL, sL, kl_i, kl_l, kl_r, kl_s, kl_m, qI_i, qJ_l, qA_r, qA_s, pI_i, pJ_l, pA_r, pS_s, pM_m, pV_v, c1_i, c1_r, c1_s, c1_m, cS_0, cS_i, cS_l, cS_r, cS_s, cS_m, pN, z_rc_r, zE1, zE2, zE3, true_and, and_true, Nat.zero_add, Nat.reduceAdd, Nat.reduceLeDiff, true_or, or_true, Int.reduceLE, Int.reduceLT, zcmp_l, zcmp_g, zcmp_e, zcmp_le, mo, mf0, mz0, mf1, mz1, mf2, mz2, mf6, mz6, mf10, mz10, mf11, mz11, mf12, mz12, mf13, mz13, mf14, mz14, mf16, mz16, mf17, mz17, mf18, mz18, mf19, mz19, mi3, mi7, mi8, mi9, mi15, mi4, mi5, mi20, ma125, mn125, ma126, mn126, ma127, mn127, ma128, mn128, ma129, mn129, ma130, mn130, ma131, mn131, ma132, mn132, ma133, mn133, ma134, mn134, ma135, mn135, ma136, mn136, ma137, mn137]
  rw [h.z (by omega) (by omega)]
  exact ⟨⟨by omega, by omega⟩, m_in (fun q => ⟨Or.inr rfl, h1 (by omega)⟩) (fun q => ⟨Or.inl rfl, h0 (by omega)⟩)⟩
theorem m_empties {r : Int} {D : Mem} {P : Int → Mem → Prop} (hr : r = 0 ∨ r = 819) (hP : ∀ D', yE r D D' → yR D' r (fun _ => 0) → P 0 D') : zC miX6_empties [zr 124, zi r] D P := by
  have loop : ∀ (m : Nat) (k : Int) (D1 : Mem), (273 - k).toNat = m → 0 ≤ k → k ≤ 273 → yE r D D1 → (∀ j, 0 ≤ j → j < k → D1 125 (r + j) = 0) → zW miX6_empties P 2 [zr 124, zi r, zi k] D1 := by
    intro m
    induction m with
    | zero =>
      intro k D1 hm k0 k1 hf hv
      refine sX6_empties_2 _ _ _ _ _ ?_
      simp only [tX6_empties_2, w_ic, w_lc, w_lds, w_ild, w_lld, w_ald, w_ist, w_lst, w_ast, w_iinc, w_iadd, w_isub, w_imul, w_idiv, w_irem, w_iand, w_ior, w_ixor, w_ishl, w_ishr, w_iushr, w_ineg, w_ladd, w_lsub, w_lmul, w_ldiv, w_lrem, w_lcmp, w_i2l, w_l2i, w_dup, w_pop, w_dup2, w_ieq, w_zeq, w_ine, w_zne, w_ilt, w_zlt, w_ige, w_zge, w_igt, w_zgt, w_ile, w_zle, w_cut, w_tsw, zsw, w_iret, w_zret, w_lret, w_vret, w_nret, w_getI, w_getJ, w_getR, w_putI, w_putZ, w_putJ, w_iald, w_zald, w_iast, w_zast, w_alen, w_sI, w_sJ, w_sV, w_vI, w_vJ, w_vV, w_tI, w_mmax, w_mmin, w_mabs, w_lmax, w_acopy, gL, sL, kl_i, kl_l, kl_r, kl_s, kl_m, qI_i, qJ_l, qA_r, qA_s, pI_i, pJ_l, pA_r, pS_s, pM_m, pV_v, c1_i, c1_r, c1_s, c1_m, cS_0, cS_i, cS_l, cS_r, cS_s, cS_m, pN, z_rc_r, zE1, zE2, zE3, true_and, and_true, Nat.zero_add, Nat.reduceAdd, Nat.reduceLeDiff, true_or, or_true, Int.reduceLE, Int.reduceLT, zcmp_l, zcmp_g, zcmp_e, zcmp_le, mo, mf0, mz0, mf1, mz1, mf2, mz2, mf6, mz6, mf10, mz10, mf11, mz11, mf12, mz12, mf13, mz13, mf14, mz14, mf16, mz16, mf17, mz17, mf18, mz18, mf19, mz19, mi3, mi7, mi8, mi9, mi15, mi4, mi5, mi20, ma125, mn125, ma126, mn126, ma127, mn127, ma128, mn128, ma129, mn129, ma130, mn130, ma131, mn131, ma132, mn132, ma133, mn133, ma134, mn134, ma135, mn135, ma136, mn136, ma137, mn137]
      exact ⟨fun _ => hP D1 hf fun j p q => hv j p (by omega), fun w => absurd (by omega) w⟩
    | succ m ih =>
      intro k D1 hm k0 k1 hf hv
      refine sX6_empties_2 _ _ _ _ _ ?_
      simp only [tX6_empties_2, w_ic, w_lc, w_lds, w_ild, w_lld, w_ald, w_ist, w_lst, w_ast, w_iinc, w_iadd, w_isub, w_imul, w_idiv, w_irem, w_iand, w_ior, w_ixor, w_ishl, w_ishr, w_iushr, w_ineg, w_ladd, w_lsub, w_lmul, w_ldiv, w_lrem, w_lcmp, w_i2l, w_l2i, w_dup, w_pop, w_dup2, w_ieq, w_zeq, w_ine, w_zne, w_ilt, w_zlt, w_ige, w_zge, w_igt, w_zgt, w_ile, w_zle, w_cut, w_tsw, zsw, w_iret, w_zret, w_lret, w_vret, w_nret, w_getI, w_getJ, w_getR, w_putI, w_putZ, w_putJ, w_iald, w_zald, w_iast, w_zast, w_alen, w_sI, w_sJ, w_sV, w_vI, w_vJ, w_vV, w_tI, w_mmax, w_mmin, w_mabs, w_lmax, w_acopy, gL, sL, kl_i, kl_l, kl_r, kl_s, kl_m, qI_i, qJ_l, qA_r, qA_s, pI_i, pJ_l, pA_r, pS_s, pM_m, pV_v, c1_i, c1_r, c1_s, c1_m, cS_0, cS_i, cS_l, cS_r, cS_s, cS_m, pN, z_rc_r, zE1, zE2, zE3, true_and, and_true, Nat.zero_add, Nat.reduceAdd, Nat.reduceLeDiff, true_or, or_true, Int.reduceLE, Int.reduceLT, zcmp_l, zcmp_g, zcmp_e, zcmp_le, mo, mf0, mz0, mf1, mz1, mf2, mz2, mf6, mz6, mf10, mz10, mf11, mz11, mf12, mz12, mf13, mz13, mf14, mz14, mf16, mz16, mf17, mz17, mf18, mz18, mf19, mz19, mi3, mi7, mi8, mi9, mi15, mi4, mi5, mi20, ma125, mn125, ma126, mn126, ma127, mn127, ma128, mn128, ma129, mn129, ma130, mn130, ma131, mn131, ma132, mn132, ma133, mn133, ma134, mn134, ma135, mn135, ma136, mn136, ma137, mn137]
      refine ⟨fun w => absurd w (by omega), fun _ => ⟨⟨by omega, by omega⟩, by omega, by omega, ⟨by omega, by omega⟩, ?_⟩⟩
      refine ih (k + 1) _ (by omega) (by omega) (by omega) (hf.trans (yE.up (by omega) (by omega))) fun j p q => ?_
      by_cases e : j = k
      · rw [e, zU_s]
      · rw [zU_k (by omega)]; exact hv j p (by omega)
  refine e_X6_empties ?_
  simp only [tX6_empties_0, w_ic, w_lc, w_lds, w_ild, w_lld, w_ald, w_ist, w_lst, w_ast, w_iinc, w_iadd, w_isub, w_imul, w_idiv, w_irem, w_iand, w_ior, w_ixor, w_ishl, w_ishr, w_iushr, w_ineg, w_ladd, w_lsub, w_lmul, w_ldiv, w_lrem, w_lcmp, w_i2l, w_l2i, w_dup, w_pop, w_dup2, w_ieq, w_zeq, w_ine, w_zne, w_ilt, w_zlt, w_ige, w_zge, w_igt, w_zgt, w_ile, w_zle, w_cut, w_tsw, zsw, w_iret, w_zret, w_lret, w_vret, w_nret, w_getI, w_getJ, w_getR, w_putI, w_putZ, w_putJ, w_iald, w_zald, w_iast, w_zast, w_alen, w_sI, w_sJ, w_sV, w_vI, w_vJ, w_vV, w_tI, w_mmax, w_mmin, w_mabs, w_lmax, w_acopy, gL, sL, kl_i, kl_l, kl_r, kl_s, kl_m, qI_i, qJ_l, qA_r, qA_s, pI_i, pJ_l, pA_r, pS_s, pM_m, pV_v, c1_i, c1_r, c1_s, c1_m, cS_0, cS_i, cS_l, cS_r, cS_s, cS_m, pN, z_rc_r, zE1, zE2, zE3, true_and, and_true, Nat.zero_add, Nat.reduceAdd, Nat.reduceLeDiff, true_or, or_true, Int.reduceLE, Int.reduceLT, zcmp_l, zcmp_g, zcmp_e, zcmp_le, mo, mf0, mz0, mf1, mz1, mf2, mz2, mf6, mz6, mf10, mz10, mf11, mz11, mf12, mz12, mf13, mz13, mf14, mz14, mf16, mz16, mf17, mz17, mf18, mz18, mf19, mz19, mi3, mi7, mi8, mi9, mi15, mi4, mi5, mi20, ma125, mn125, ma126, mn126, ma127, mn127, ma128, mn128, ma129, mn129, ma130, mn130, ma131, mn131, ma132, mn132, ma133, mn133, ma134, mn134, ma135, mn135, ma136, mn136, ma137, mn137]
  exact loop _ 0 D rfl (by omega) (by omega) yE.rfl (fun j p q => by omega)
theorem m_copy {r t : Int} {a : Int → Int} {D : Mem} {P : Int → Mem → Prop} (r0 : 0 ≤ r ∧ r ≤ 819) (t0 : 0 ≤ t ∧ t ≤ 819) (hrt : r + 273 ≤ t ∨ t + 273 ≤ r) (h : yR D r a) (hP : ∀ D', yE t D D' → yR D' t a → P 0 D') : zC miX6_copy [zr 124, zi r, zi t] D P := by
  have loop : ∀ (m : Nat) (k : Int) (D1 : Mem), (273 - k).toNat = m → 0 ≤ k → k ≤ 273 → yE t D D1 → (∀ j, 0 ≤ j → j < k → D1 125 (t + j) = a j) → zW miX6_copy P 2 [zr 124, zi r, zi t, zi k] D1 := by
    intro m
    induction m with
    | zero =>
      intro k D1 hm k0 k1 hf hv
      refine sX6_copy_2 _ _ _ _ _ ?_
      simp only [tX6_copy_2, w_ic, w_lc, w_lds, w_ild, w_lld, w_ald, w_ist, w_lst, w_ast, w_iinc, w_iadd, w_isub, w_imul, w_idiv, w_irem, w_iand, w_ior, w_ixor, w_ishl, w_ishr, w_iushr, w_ineg, w_ladd, w_lsub, w_lmul, w_ldiv, w_lrem, w_lcmp, w_i2l, w_l2i, w_dup, w_pop, w_dup2, w_ieq, w_zeq, w_ine, w_zne, w_ilt, w_zlt, w_ige, w_zge, w_igt, w_zgt, w_ile, w_zle, w_cut, w_tsw, zsw, w_iret, w_zret, w_lret, w_vret, w_nret, w_getI, w_getJ, w_getR, w_putI, w_putZ, w_putJ, w_iald, w_zald, w_iast, w_zast, w_alen, w_sI, w_sJ, w_sV, w_vI, w_vJ, w_vV, w_tI, w_mmax, w_mmin, w_mabs, w_lmax, w_acopy, gL, sL, kl_i, kl_l, kl_r, kl_s, kl_m, qI_i, qJ_l, qA_r, qA_s, pI_i, pJ_l, pA_r, pS_s, pM_m, pV_v, c1_i, c1_r, c1_s, c1_m, cS_0, cS_i, cS_l, cS_r, cS_s, cS_m, pN, z_rc_r, zE1, zE2, zE3, true_and, and_true, Nat.zero_add, Nat.reduceAdd, Nat.reduceLeDiff, true_or, or_true, Int.reduceLE, Int.reduceLT, zcmp_l, zcmp_g, zcmp_e, zcmp_le, mo, mf0, mz0, mf1, mz1, mf2, mz2, mf6, mz6, mf10, mz10, mf11, mz11, mf12, mz12, mf13, mz13, mf14, mz14, mf16, mz16, mf17, mz17, mf18, mz18, mf19, mz19, mi3, mi7, mi8, mi9, mi15, mi4, mi5, mi20, ma125, mn125, ma126, mn126, ma127, mn127, ma128, mn128, ma129, mn129, ma130, mn130, ma131, mn131, ma132, mn132, ma133, mn133, ma134, mn134, ma135, mn135, ma136, mn136, ma137, mn137]
      exact ⟨fun _ => hP D1 hf fun j p q => hv j p (by omega), fun w => absurd (by omega) w⟩
    | succ m ih =>
      intro k D1 hm k0 k1 hf hv
      refine sX6_copy_2 _ _ _ _ _ ?_
      simp only [tX6_copy_2, w_ic, w_lc, w_lds, w_ild, w_lld, w_ald, w_ist, w_lst, w_ast, w_iinc, w_iadd, w_isub, w_imul, w_idiv, w_irem, w_iand, w_ior, w_ixor, w_ishl, w_ishr, w_iushr, w_ineg, w_ladd, w_lsub, w_lmul, w_ldiv, w_lrem, w_lcmp, w_i2l, w_l2i, w_dup, w_pop, w_dup2, w_ieq, w_zeq, w_ine, w_zne, w_ilt, w_zlt, w_ige, w_zge, w_igt, w_zgt, w_ile, w_zle, w_cut, w_tsw, zsw, w_iret, w_zret, w_lret, w_vret, w_nret, w_getI, w_getJ, w_getR, w_putI, w_putZ, w_putJ, w_iald, w_zald, w_iast, w_zast, w_alen, w_sI, w_sJ, w_sV, w_vI, w_vJ, w_vV, w_tI, w_mmax, w_mmin, w_mabs, w_lmax, w_acopy, gL, sL, kl_i, kl_l, kl_r, kl_s, kl_m, qI_i, qJ_l, qA_r, qA_s, pI_i, pJ_l, pA_r, pS_s, pM_m, pV_v, c1_i, c1_r, c1_s, c1_m, cS_0, cS_i, cS_l, cS_r, cS_s, cS_m, pN, z_rc_r, zE1, zE2, zE3, true_and, and_true, Nat.zero_add, Nat.reduceAdd, Nat.reduceLeDiff, true_or, or_true, Int.reduceLE, Int.reduceLT, zcmp_l, zcmp_g, zcmp_e, zcmp_le, mo, mf0, mz0, mf1, mz1, mf2, mz2, mf6, mz6, mf10, mz10, mf11, mz11, mf12, mz12, mf13, mz13, mf14, mz14, mf16, mz16, mf17, mz17, mf18, mz18, mf19, mz19, mi3, mi7, mi8, mi9, mi15, mi4, mi5, mi20, ma125, mn125, ma126, mn126, ma127, mn127, ma128, mn128, ma129, mn129, ma130, mn130, ma131, mn131, ma132, mn132, ma133, mn133, ma134, mn134, ma135, mn135, ma136, mn136, ma137, mn137]
      rw [hf.2 (r + k) (by omega), h k k0 (by omega)]
      refine ⟨fun w => absurd w (by omega), fun _ => ⟨⟨by omega, by omega⟩, ⟨by omega, by omega⟩, by omega, by omega, by omega, by omega, ⟨by omega, by omega⟩, ?_⟩⟩
      refine ih (k + 1) _ (by omega) (by omega) (by omega) (hf.trans (yE.up (by omega) (by omega))) fun j p q => ?_
      by_cases e : j = k
      · rw [e, zU_s]
      · rw [zU_k (by omega)]; exact hv j p (by omega)
  refine e_X6_copy ?_
  simp only [tX6_copy_0, w_ic, w_lc, w_lds, w_ild, w_lld, w_ald, w_ist, w_lst, w_ast, w_iinc, w_iadd, w_isub, w_imul, w_idiv, w_irem, w_iand, w_ior, w_ixor, w_ishl, w_ishr, w_iushr, w_ineg, w_ladd, w_lsub, w_lmul, w_ldiv, w_lrem, w_lcmp, w_i2l, w_l2i, w_dup, w_pop, w_dup2, w_ieq, w_zeq, w_ine, w_zne, w_ilt, w_zlt, w_ige, w_zge, w_igt, w_zgt, w_ile, w_zle, w_cut, w_tsw, zsw, w_iret, w_zret, w_lret, w_vret, w_nret, w_getI, w_getJ, w_getR, w_putI, w_putZ, w_putJ, w_iald, w_zald, w_iast, w_zast, w_alen, w_sI, w_sJ, w_sV, w_vI, w_vJ, w_vV, w_tI, w_mmax, w_mmin, w_mabs, w_lmax, w_acopy, gL, sL, kl_i, kl_l, kl_r, kl_s, kl_m, qI_i, qJ_l, qA_r, qA_s, pI_i, pJ_l, pA_r, pS_s, pM_m, pV_v, c1_i, c1_r, c1_s, c1_m, cS_0, cS_i, cS_l, cS_r, cS_s, cS_m, pN, z_rc_r, zE1, zE2, zE3, true_and, and_true, Nat.zero_add, Nat.reduceAdd, Nat.reduceLeDiff, true_or, or_true, Int.reduceLE, Int.reduceLT, zcmp_l, zcmp_g, zcmp_e, zcmp_le, mo, mf0, mz0, mf1, mz1, mf2, mz2, mf6, mz6, mf10, mz10, mf11, mz11, mf12, mz12, mf13, mz13, mf14, mz14, mf16, mz16, mf17, mz17, mf18, mz18, mf19, mz19, mi3, mi7, mi8, mi9, mi15, mi4, mi5, mi20, ma125, mn125, ma126, mn126, ma127, mn127, ma128, mn128, ma129, mn129, ma130, mn130, ma131, mn131, ma132, mn132, ma133, mn133, ma134, mn134, ma135, mn135, ma136, mn136, ma137, mn137]
  exact loop _ 0 D rfl (by omega) (by omega) yE.rfl (fun j p q => by omega)
theorem m_back {n : Int} {s : Mem} (hW : WS n s) : mOK miX6_back [zr 124] s (r_back s) := by
  intro D P hM hP
  refine e_X6_back ?_
  simp only [tX6_back_0, w_ic, w_lc, w_lds, w_ild, w_lld, w_ald, w_ist, w_lst, w_ast, w_iinc, w_iadd, w_isub, w_imul, w_idiv, w_irem, w_iand, w_ior, w_ixor, w_ishl, w_ishr, w_iushr, w_ineg, w_ladd, w_lsub, w_lmul, w_ldiv, w_lrem, w_lcmp, w_i2l, w_l2i, w_dup, w_pop, w_dup2, w_ieq, w_zeq, w_ine, w_zne, w_ilt, w_zlt, w_ige, w_zge, w_igt, w_zgt, w_ile, w_zle, w_cut, w_tsw, zsw, w_iret, w_zret, w_lret, w_vret, w_nret, w_getI, w_getJ, w_getR, w_putI, w_putZ, w_putJ, w_iald, w_zald, w_iast, w_zast, w_alen, w_sI, w_sJ, w_sV, w_vI, w_vJ, w_vV, w_tI, w_mmax, w_mmin, w_mabs, w_lmax, w_acopy, gL, sL, kl_i, kl_l, kl_r, kl_s, kl_m, qI_i, qJ_l, qA_r, qA_s, pI_i, pJ_l, pA_r, pS_s, pM_m, pV_v, c1_i, c1_r, c1_s, c1_m, cS_0, cS_i, cS_l, cS_r, cS_s, cS_m, pN, z_rc_r, zE1, zE2, zE3, true_and, and_true, Nat.zero_add, Nat.reduceAdd, Nat.reduceLeDiff, true_or, or_true, Int.reduceLE, Int.reduceLT, zcmp_l, zcmp_g, zcmp_e, zcmp_le, mo, mf0, mz0, mf1, mz1, mf2, mz2, mf6, mz6, mf10, mz10, mf11, mz11, mf12, mz12, mf13, mz13, mf14, mz14, mf16, mz16, mf17, mz17, mf18, mz18, mf19, mz19, mi3, mi7, mi8, mi9, mi15, mi4, mi5, mi20, ma125, mn125, ma126, mn126, ma127, mn127, ma128, mn128, ma129, mn129, ma130, mn130, ma131, mn131, ma132, mn132, ma133, mn133, ma134, mn134, ma135, mn135, ma136, mn136, ma137, mn137]
  rw [hM.1.z (by omega) (by omega)]
  exact m_empties (Or.inl rfl) fun D' f h => hP D' f.n.fr (hM.now f.n h)
theorem m_hasLadder {r c : Int} {a : Int → Int} {D : Mem} {P : Int → Mem → Prop} (hr : rOK r) (hq : yQ D r a) (n0 : 0 ≤ a 0 ∧ a 0 ≤ 6) (h1 : ¬ (∀ k, 0 ≤ k → k < a 0 → a (4 + k) ≠ c) → P 1 D) (h0 : (∀ k, 0 ≤ k → k < a 0 → a (4 + k) ≠ c) → P 0 D) : zC miX6_hasLadder [zr 124, zi r, zi c] D P := by
  have hb := hr.b
  have loop : ∀ (m : Nat) (k is : Int), (a 0 - k).toNat = m → 0 ≤ k → k ≤ a 0 → (is = 0 ∧ ¬ wEx (fun j => a (4 + j) = c) k) ∨ (is = 1 ∧ wEx (fun j => a (4 + j) = c) k) → zW miX6_hasLadder P 5 [zr 124, zi r, zi c, zi is, zi k] D := by
    intro m
    induction m with
    | zero =>
      intro k is hm k0 k1 hi
      have ek : k = a 0 := by omega
      rw [ek] at hi
      refine sX6_hasLadder_5 _ _ _ _ _ ?_
      simp only [tX6_hasLadder_5, w_ic, w_lc, w_lds, w_ild, w_lld, w_ald, w_ist, w_lst, w_ast, w_iinc, w_iadd, w_isub, w_imul, w_idiv, w_irem, w_iand, w_ior, w_ixor, w_ishl, w_ishr, w_iushr, w_ineg, w_ladd, w_lsub, w_lmul, w_ldiv, w_lrem, w_lcmp, w_i2l, w_l2i, w_dup, w_pop, w_dup2, w_ieq, w_zeq, w_ine, w_zne, w_ilt, w_zlt, w_ige, w_zge, w_igt, w_zgt, w_ile, w_zle, w_cut, w_tsw, zsw, w_iret, w_zret, w_lret, w_vret, w_nret, w_getI, w_getJ, w_getR, w_putI, w_putZ, w_putJ, w_iald, w_zald, w_iast, w_zast, w_alen, w_sI, w_sJ, w_sV, w_vI, w_vJ, w_vV, w_tI, w_mmax, w_mmin, w_mabs, w_lmax, w_acopy, gL, sL, kl_i, kl_l, kl_r, kl_s, kl_m, qI_i, qJ_l, qA_r, qA_s, pI_i, pJ_l, pA_r, pS_s, pM_m, pV_v, c1_i, c1_r, c1_s, c1_m, cS_0, cS_i, cS_l, cS_r, cS_s, cS_m, pN, z_rc_r, zE1, zE2, zE3, true_and, and_true, Nat.zero_add, Nat.reduceAdd, Nat.reduceLeDiff, true_or, or_true, Int.reduceLE, Int.reduceLT, zcmp_l, zcmp_g, zcmp_e, zcmp_le, mo, mf0, mz0, mf1, mz1, mf2, mz2, mf6, mz6, mf10, mz10, mf11, mz11, mf12, mz12, mf13, mz13, mf14, mz14, mf16, mz16, mf17, mz17, mf18, mz18, mf19, mz19, mi3, mi7, mi8, mi9, mi15, mi4, mi5, mi20, ma125, mn125, ma126, mn126, ma127, mn127, ma128, mn128, ma129, mn129, ma130, mn130, ma131, mn131, ma132, mn132, ma133, mn133, ma134, mn134, ma135, mn135, ma136, mn136, ma137, mn137]
      rw [hq 0 (by omega) (by omega)]
      refine ⟨⟨by omega, by omega⟩, by omega, by omega, fun _ => ?_, fun w => absurd (by omega) w⟩
      rcases hi with ⟨e, h⟩ | ⟨e, j, j0, j1, j2⟩
      · subst e
        exact ⟨Or.inl rfl, h0 fun j j0 j1 j2 => h ⟨j, j0, j1, j2⟩⟩
      · subst e
        exact ⟨Or.inr rfl, h1 fun w => w j j0 j1 j2⟩
    | succ m ih =>
      intro k is hm k0 k1 hi
      have up : ∀ is' : Int, ((is' = 0 ∧ ¬ wEx (fun j => a (4 + j) = c) (k + 1)) ∨ (is' = 1 ∧ wEx (fun j => a (4 + j) = c) (k + 1))) → zR (k + 1) ∧ zW miX6_hasLadder P 5 [zr 124, zi r, zi c, zi is', zi (k + 1)] D := fun is' h => ⟨⟨by omega, by omega⟩, ih (k + 1) is' (by omega) (by omega) (by omega) h⟩
      rw [wEx_s k0] at up
      refine sX6_hasLadder_5 _ _ _ _ _ ?_
      simp only [tX6_hasLadder_5, w_ic, w_lc, w_lds, w_ild, w_lld, w_ald, w_ist, w_lst, w_ast, w_iinc, w_iadd, w_isub, w_imul, w_idiv, w_irem, w_iand, w_ior, w_ixor, w_ishl, w_ishr, w_iushr, w_ineg, w_ladd, w_lsub, w_lmul, w_ldiv, w_lrem, w_lcmp, w_i2l, w_l2i, w_dup, w_pop, w_dup2, w_ieq, w_zeq, w_ine, w_zne, w_ilt, w_zlt, w_ige, w_zge, w_igt, w_zgt, w_ile, w_zle, w_cut, w_tsw, zsw, w_iret, w_zret, w_lret, w_vret, w_nret, w_getI, w_getJ, w_getR, w_putI, w_putZ, w_putJ, w_iald, w_zald, w_iast, w_zast, w_alen, w_sI, w_sJ, w_sV, w_vI, w_vJ, w_vV, w_tI, w_mmax, w_mmin, w_mabs, w_lmax, w_acopy, gL, sL, kl_i, kl_l, kl_r, kl_s, kl_m, qI_i, qJ_l, qA_r, qA_s, pI_i, pJ_l, pA_r, pS_s, pM_m, pV_v, c1_i, c1_r, c1_s, c1_m, cS_0, cS_i, cS_l, cS_r, cS_s, cS_m, pN, z_rc_r, zE1, zE2, zE3, true_and, and_true, Nat.zero_add, Nat.reduceAdd, Nat.reduceLeDiff, true_or, or_true, Int.reduceLE, Int.reduceLT, zcmp_l, zcmp_g, zcmp_e, zcmp_le, mo, mf0, mz0, mf1, mz1, mf2, mz2, mf6, mz6, mf10, mz10, mf11, mz11, mf12, mz12, mf13, mz13, mf14, mz14, mf16, mz16, mf17, mz17, mf18, mz18, mf19, mz19, mi3, mi7, mi8, mi9, mi15, mi4, mi5, mi20, ma125, mn125, ma126, mn126, ma127, mn127, ma128, mn128, ma129, mn129, ma130, mn130, ma131, mn131, ma132, mn132, ma133, mn133, ma134, mn134, ma135, mn135, ma136, mn136, ma137, mn137]
      rw [hq 0 (by omega) (by omega), hq.t 4 k (by omega) (by omega)]
      refine ⟨⟨by omega, by omega⟩, by omega, by omega, fun w => absurd w (by omega), fun _ => ⟨fun q => up 1 (Or.inr ⟨rfl, ?_⟩), fun q => ⟨⟨by omega, by omega⟩, ⟨by omega, by omega⟩, by omega, by omega, fun q2 => up 0 (Or.inl ⟨rfl, ?_⟩), fun q2 => up 1 (Or.inr ⟨rfl, Or.inr (Decidable.not_not.mp q2)⟩)⟩⟩⟩
      · rcases hi with ⟨e, _⟩ | ⟨_, h⟩
        · exact absurd e q
        · exact Or.inl h
      · rintro (w | w)
        · rcases hi with ⟨_, h⟩ | ⟨e, _⟩
          · exact h w
          · omega
        · exact q2 w
  refine e_X6_hasLadder ?_
  simp only [tX6_hasLadder_0, w_ic, w_lc, w_lds, w_ild, w_lld, w_ald, w_ist, w_lst, w_ast, w_iinc, w_iadd, w_isub, w_imul, w_idiv, w_irem, w_iand, w_ior, w_ixor, w_ishl, w_ishr, w_iushr, w_ineg, w_ladd, w_lsub, w_lmul, w_ldiv, w_lrem, w_lcmp, w_i2l, w_l2i, w_dup, w_pop, w_dup2, w_ieq, w_zeq, w_ine, w_zne, w_ilt, w_zlt, w_ige, w_zge, w_igt, w_zgt, w_ile, w_zle, w_cut, w_tsw, zsw, w_iret, w_zret, w_lret, w_vret, w_nret, w_getI, w_getJ, w_getR, w_putI, w_putZ, w_putJ, w_iald, w_zald, w_iast, w_zast, w_alen, w_sI, w_sJ, w_sV, w_vI, w_vJ, w_vV, w_tI, w_mmax, w_mmin, w_mabs, w_lmax, w_acopy, gL, sL, kl_i, kl_l, kl_r, kl_s, kl_m, qI_i, qJ_l, qA_r, qA_s, pI_i, pJ_l, pA_r, pS_s, pM_m, pV_v, c1_i, c1_r, c1_s, c1_m, cS_0, cS_i, cS_l, cS_r, cS_s, cS_m, pN, z_rc_r, zE1, zE2, zE3, true_and, and_true, Nat.zero_add, Nat.reduceAdd, Nat.reduceLeDiff, true_or, or_true, Int.reduceLE, Int.reduceLT, zcmp_l, zcmp_g, zcmp_e, zcmp_le, mo, mf0, mz0, mf1, mz1, mf2, mz2, mf6, mz6, mf10, mz10, mf11, mz11, mf12, mz12, mf13, mz13, mf14, mz14, mf16, mz16, mf17, mz17, mf18, mz18, mf19, mz19, mi3, mi7, mi8, mi9, mi15, mi4, mi5, mi20, ma125, mn125, ma126, mn126, ma127, mn127, ma128, mn128, ma129, mn129, ma130, mn130, ma131, mn131, ma132, mn132, ma133, mn133, ma134, mn134, ma135, mn135, ma136, mn136, ma137, mn137]
  exact loop _ 0 0 rfl (by omega) (by omega) (Or.inl ⟨rfl, wEx_0⟩)
theorem m_addsLadder {r c : Int} {a : Int → Int} {D : Mem} {P : Int → Mem → Prop} (hr : rOK r) (h : yR D r a) (n0 : 0 ≤ a 0 ∧ a 0 < 6) (hP : ∀ D', yE r D D' → yR D' r (sAddL a c) → P 0 D') : zC miX6_addsLadder [zr 124, zi r, zi c] D P := by
  have hb := hr.b
  have h1 : yR (zU D 125 (r + 4 + a 0) c) r (zA a (4 + a 0) c) := h.up (by omega)
  have h2 : yR (zU (zU D 125 (r + 4 + a 0) c) 125 (r + 10 + a 0) 1) r (zA (zA a (4 + a 0) c) (10 + a 0) 1) := h1.up (by omega)
  have e1 := h1 0 (by omega) (by omega)
  have e2 := h2 0 (by omega) (by omega)
  rw [zA_n (by omega)] at e1
  rw [zA_n (by omega), zA_n (by omega)] at e2
  refine e_X6_addsLadder ?_
  simp only [tX6_addsLadder_0, w_ic, w_lc, w_lds, w_ild, w_lld, w_ald, w_ist, w_lst, w_ast, w_iinc, w_iadd, w_isub, w_imul, w_idiv, w_irem, w_iand, w_ior, w_ixor, w_ishl, w_ishr, w_iushr, w_ineg, w_ladd, w_lsub, w_lmul, w_ldiv, w_lrem, w_lcmp, w_i2l, w_l2i, w_dup, w_pop, w_dup2, w_ieq, w_zeq, w_ine, w_zne, w_ilt, w_zlt, w_ige, w_zge, w_igt, w_zgt, w_ile, w_zle, w_cut, w_tsw, zsw, w_iret, w_zret, w_lret, w_vret, w_nret, w_getI, w_getJ, w_getR, w_putI, w_putZ, w_putJ, w_iald, w_zald, w_iast, w_zast, w_alen, w_sI, w_sJ, w_sV, w_vI, w_vJ, w_vV, w_tI, w_mmax, w_mmin, w_mabs, w_lmax, w_acopy, gL, sL, kl_i, kl_l, kl_r, kl_s, kl_m, qI_i, qJ_l, qA_r, qA_s, pI_i, pJ_l, pA_r, pS_s, pM_m, pV_v, c1_i, c1_r, c1_s, c1_m, cS_0, cS_i, cS_l, cS_r, cS_s, cS_m, pN, z_rc_r, zE1, zE2, zE3, true_and, and_true, Nat.zero_add, Nat.reduceAdd, Nat.reduceLeDiff, true_or, or_true, Int.reduceLE, Int.reduceLT, zcmp_l, zcmp_g, zcmp_e, zcmp_le, mo, mf0, mz0, mf1, mz1, mf2, mz2, mf6, mz6, mf10, mz10, mf11, mz11, mf12, mz12, mf13, mz13, mf14, mz14, mf16, mz16, mf17, mz17, mf18, mz18, mf19, mz19, mi3, mi7, mi8, mi9, mi15, mi4, mi5, mi20, ma125, mn125, ma126, mn126, ma127, mn127, ma128, mn128, ma129, mn129, ma130, mn130, ma131, mn131, ma132, mn132, ma133, mn133, ma134, mn134, ma135, mn135, ma136, mn136, ma137, mn137]
  rw [h 0 (by omega) (by omega), e1, e2]
  repeat' (with_reducible apply And.intro)
  all_goals first | omega | exact ⟨by omega, by omega⟩ | skip
  exact hP _ ((yE.up (by omega) (by omega)).trans ((yE.up (by omega) (by omega)).trans (yE.up (by omega) (by omega)))) (h2.up (by omega))
