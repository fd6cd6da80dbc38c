/-! ===== 45: the model: its state; refusals; ladders, goers, windows, text ===== -/
def MT (D s : Mem) : Prop := (D 124 3 = s 4 0 ∧ ∀ j, 0 ≤ j → j < s 4 0 → D 127 j = s 3 j) ∧ (D 126 0 = s 4 1 ∧ D 126 1 = s 4 2) ∧ (D 128 0 = s 4 3 ∧ D 128 1 = s 4 4 ∧ D 128 2 = s 4 5) ∧ (D 124 4 = s 4 6 ∧ D 124 5 = s 4 7)
def MS (D s : Mem) : Prop := MR D 0 (s 0) ∧ (MR D 273 (s 1) ∧ MR D 546 (s 2)) ∧ MT D s
def FX (D D' : Mem) : Prop := (∀ o, (o < 124 ∨ 138 ≤ o ∨ o = 126 ∨ o = 127 ∨ o = 128) → D' o = D o) ∧ (∀ j : Int, j < 7 → D' 124 j = D 124 j)
def FS (D D' : Mem) : Prop := FX D D' ∧ ∀ j : Int, j < 819 → D' 125 j = D 125 j
def FN (D D' : Mem) : Prop := FX D D' ∧ ∀ j : Int, 273 ≤ j → j < 819 → D' 125 j = D 125 j
def FR (r : Int) (D D' : Mem) : Prop := (∀ o, o ≠ 125 → D' o = D o) ∧ ∀ j : Int, j < r ∨ r + 273 ≤ j → D' 125 j = D 125 j
theorem FX.rfl {D : Mem} : FX D D := ⟨fun _ _ => Eq.refl _, fun _ _ => Eq.refl _⟩
theorem FX.trans {D D1 D2 : Mem} (h : FX D D1) (h2 : FX D1 D2) : FX D D2 := ⟨fun o p => (h2.1 o p).trans (h.1 o p), fun j p => (h2.2 j p).trans (h.2 j p)⟩
theorem FS.rfl {D : Mem} : FS D D := ⟨FX.rfl, fun _ _ => Eq.refl _⟩
theorem FS.trans {D D1 D2 : Mem} (h : FS D D1) (h2 : FS D1 D2) : FS D D2 := ⟨h.1.trans h2.1, fun j p => (h2.2 j p).trans (h.2 j p)⟩
theorem FN.rfl {D : Mem} : FN D D := ⟨FX.rfl, fun _ _ _ => Eq.refl _⟩
theorem FN.trans {D D1 D2 : Mem} (h : FN D D1) (h2 : FN D1 D2) : FN D D2 := ⟨h.1.trans h2.1, fun j p q => (h2.2 j p q).trans (h.2 j p q)⟩
theorem FS.n {D D' : Mem} (h : FS D D') : FN D D' := ⟨h.1, fun j _ q => h.2 j q⟩
theorem FR.rfl {r : Int} {D : Mem} : FR r D D := ⟨fun _ _ => Eq.refl _, fun _ _ => Eq.refl _⟩
theorem FR.trans {r : Int} {D D1 D2 : Mem} (h : FR r D D1) (h2 : FR r D1 D2) : FR r D D2 := ⟨fun o p => (h2.1 o p).trans (h.1 o p), fun j p => (h2.2 j p).trans (h.2 j p)⟩
theorem FR.up {r k x : Int} {D : Mem} (h0 : r ≤ k) (h1 : k < r + 273) : FR r D (zU D 125 k x) := ⟨fun o p => zU_ne p, fun j p => zU_k (by omega)⟩
theorem FX.of5 {D D' : Mem} (h : ∀ o, o ≠ 125 → D' o = D o) : FX D D' := ⟨fun o p => h o (by omega), fun j _ => by rw [h 124 (by decide)]⟩
theorem FR.n {D D' : Mem} (h : FR 0 D D') : FN D D' := ⟨FX.of5 h.1, fun j p q => h.2 j (Or.inr (by omega))⟩
theorem FR.s {D D' : Mem} (h : FR 819 D D') : FS D D' := ⟨FX.of5 h.1, fun j p => h.2 j (Or.inl p)⟩
theorem FP.x {r : Int} {D D' : Mem} (h : FP r D D') : FX D D' := ⟨fun o p => h.1 o (by omega) (by omega) (by omega) (by omega), fun j _ => by rw [h.1 124 (by decide) (by decide) (by decide) (by decide)]⟩
theorem FP.n {D D' : Mem} (h : FP 0 D D') : FN D D' := ⟨h.x, fun j p q => h.2 j (Or.inr (by omega))⟩
theorem FP.s {r : Int} {D D' : Mem} (h : FP r D D') (hr : 819 ≤ r) : FS D D' := ⟨h.x, fun j p => h.2 j (Or.inl (by omega))⟩
theorem FA.s {D D' : Mem} (h : FA D D') : FS D D' := (h.p (r := 1092)).s (by decide)
theorem FS.up {D : Mem} {o : Nat} {k x : Int} (h : 129 ≤ o ∧ o < 138) : FS D (zU D o k x) := ⟨⟨fun o' p => zU_ne (by omega), fun j _ => zU_o (by omega)⟩, fun j _ => zU_o (by omega)⟩
theorem FS.u5 {D : Mem} {k x : Int} (h : 819 ≤ k) : FS D (zU D 125 k x) := ⟨FX.of5 fun o p => zU_ne p, fun j p => zU_k (by omega)⟩
theorem FS.u4 {D : Mem} {k x : Int} (h : 7 ≤ k) : FS D (zU D 124 k x) := ⟨⟨fun o p => zU_ne (by omega), fun j p => zU_k (by omega)⟩, fun j _ => zU_o (by decide)⟩
theorem FN.fr {D D' : Mem} (h : FN D D') : Fr 124 138 D D' := fun o p => h.1.1 o (by omega)
theorem FS.fr {D D' : Mem} (h : FS D D') : Fr 124 138 D D' := h.n.fr
theorem MT.x {D D' s : Mem} (h : MT D s) (f : FX D D') : MT D' s := by
  unfold MT
  rw [f.2 3 (by decide), f.2 4 (by decide), f.2 5 (by decide), f.1 126 (by omega), f.1 127 (by omega), f.1 128 (by omega)]
  exact h
theorem MS.s {D D' s : Mem} (h : MS D s) (f : FS D D') : MS D' s := ⟨fun j p q => by rw [f.2 _ (by omega)]; exact h.1 j p q, ⟨fun j p q => by rw [f.2 _ (by omega)]; exact h.2.1.1 j p q, fun j p q => by rw [f.2 _ (by omega)]; exact h.2.1.2 j p q⟩, h.2.2.x f.1⟩
theorem MS.now {D D' s : Mem} {a : Int → Int} (h : MS D s) (f : FN D D') (hR : MR D' 0 a) : MS D' (sU s 0 a) := by
  refine ⟨by rw [sU_s]; exact hR, ⟨fun j p q => ?_, fun j p q => ?_⟩, ?_⟩
  · rw [f.2 _ (by omega) (by omega), sU_n (by decide)]; exact h.2.1.1 j p q
  · rw [f.2 _ (by omega) (by omega), sU_n (by decide)]; exact h.2.1.2 j p q
  · unfold MT
    rw [sU_n (by decide), sU_n (by decide)]
    exact h.2.2.x f.1
theorem MR.up {D : Mem} {r k k' x : Int} {a : Int → Int} (h : MR D r a) (e : k' = r + k) : MR (zU D 125 k' x) r (zA a k x) := by
  intro j p q
  by_cases g : j = k
  · rw [g, e, zU_s, zA_s]
  · rw [zU_k (by omega), zA_n g]
    exact h j p q
theorem MQ.up {D : Mem} {r k k' x : Int} {a : Int → Int} (h : MQ D r a) (e : k' = r + k) : MQ (zU D 125 k' x) r (zA a k x) := by
  intro j p q
  by_cases g : j = k
  · rw [g, e, zU_s, zA_s]
  · rw [zU_k (by omega), zA_n g]
    exact h j p q
theorem MR.o {D : Mem} {r k x : Int} {o : Nat} {a : Int → Int} (h : MR D r a) (e : o ≠ 125) : MR (zU D o k x) r a := by
  unfold MR
  rw [zU_ne (Ne.symm e)]
  exact h
theorem MR.z {D : Mem} {a : Int → Int} (h : MR D 0 a) {j : Int} (h0 : 0 ≤ j) (h1 : j < 273) : D 125 j = a j := by
  have := h j h0 h1
  rw [Int.zero_add] at this
  exact this
abbrev mOK (M : MI) (as : List AV) (s : Mem) (r : Int × Mem) : Prop := ∀ ⦃D : Mem⦄ ⦃P : Int → Mem → Prop⦄, MS D s → (∀ D', Fr 124 138 D D' → MS D' r.2 → P r.1 D') → zC M as D P
theorem MS.rf {D s : Mem} {k : Int} (h : MS D s) (hk : k = 0 ∨ k = 1 ∨ k = 2) : MS (zU D 128 k (s 4 (3 + k) + 1)) (sRf s (3 + k)) := by
  obtain ⟨h1, ⟨h2, h3⟩, h5, h6, ⟨h9, h10, h11⟩, h12⟩ := h
  have n : ∀ j, j ≠ 3 + k → zA (s 4) (3 + k) (s 4 (3 + k) + 1) j = s 4 j := fun j q => zA_n q
  unfold sRf
  refine ⟨?_, ⟨?_, ?_⟩, ?_⟩
  · rw [sU_n (by decide)]; exact h1.o (by decide)
  · rw [sU_n (by decide)]; exact h2.o (by decide)
  · rw [sU_n (by decide)]; exact h3.o (by decide)
  · unfold MT
    rw [sU_s, sU_n (by decide), zU_ne (o' := 124) (by decide), zU_ne (o' := 126) (by decide), zU_ne (o' := 127) (by decide), n 0 (by omega), n 1 (by omega), n 2 (by omega), n 6 (by omega), n 7 (by omega)]
    refine ⟨h5, h6, ?_, h12⟩
    rcases hk with q | q | q <;> subst q
    · exact ⟨by rw [zU_s, show (3 : Int) + 0 = 3 from rfl, zA_s], by rw [zU_k (by decide), zA_n (by decide)]; exact h10, by rw [zU_k (by decide), zA_n (by decide)]; exact h11⟩
    · exact ⟨by rw [zU_k (by decide), zA_n (by decide)]; exact h9, by rw [zU_s, show (3 : Int) + 1 = 4 from rfl, zA_s], by rw [zU_k (by decide), zA_n (by decide)]; exact h11⟩
    · exact ⟨by rw [zU_k (by decide), zA_n (by decide)]; exact h9, by rw [zU_k (by decide), zA_n (by decide)]; exact h10, by rw [zU_s, show (3 : Int) + 2 = 5 from rfl, zA_s]⟩
theorem m_bad {n x : Int} {D s : Mem} {P : Int → Mem → Prop} (hM : MS D s) (hW : WS n s) (hn : n < 1000000) (hP : ∀ D', Fr 124 138 D D' → MS D' (sRf s 3) → P x D') : zC miX6_bad [zr 124, zi x] D P := by
  have e := hM.2.2.2.2.1
  have w := hW.2.2.2
  refine e_X6_bad ?_
  simp only [tX6_bad_0, w_ic, w_lc, w_lds, w_ild, w_lld, w_ald, w_ist, w_lst, w_ast, w_iinc, w_iadd, w_isub, w_imul, w_idiv, w_irem, w_iand, w_ior, w_ixor, w_ishl, w_ishr, w_iushr, w_ineg, w_ladd, w_lsub, w_lmul, w_ldiv, w_lrem, w_lcmp, w_i2l, w_l2i, w_dup, w_pop, w_dup2, w_ieq, w_zeq, w_ine, w_zne, w_ilt, w_zlt, w_ige, w_zge, w_igt, w_zgt, w_ile, w_zle, w_cut, w_tsw, zsw, w_iret, w_zret, w_lret, w_vret, w_nret, w_getI, w_getJ, w_getR, w_putI, w_putZ, w_putJ, w_iald, w_zald, w_iast, w_zast, w_alen, w_sI, w_sJ, w_sV, w_vI, w_vJ, w_vV, w_tI, w_mmax, w_mmin, w_mabs, w_lmax, w_acopy, gL, sL, kl_i, kl_l, kl_r, kl_s, kl_m, qI_i, qJ_l, qA_r, qA_s, pI_i, pJ_l, pA_r, pS_s, pM_m, pV_v, c1_i, c1_r, c1_s, c1_m, cS_0, cS_i, cS_l, cS_r, cS_s, cS_m, pN, z_rc_r, zE1, zE2, zE3, true_and, and_true, Nat.zero_add, Nat.reduceAdd, Nat.reduceLeDiff, true_or, or_true, Int.reduceLE, Int.reduceLT, zcmp_l, zcmp_g, zcmp_e, zcmp_le, mo, mf0, mz0, mf1, mz1, mf2, mz2, mf6, mz6, mf10, mz10, mf11, mz11, mf12, mz12, mf13, mz13, mf14, mz14, mf16, mz16, mf17, mz17, mf18, mz18, mf19, mz19, mi3, mi7, mi8, mi9, mi15, mi4, mi5, mi20, ma125, mn125, ma126, mn126, ma127, mn127, ma128, mn128, ma129, mn129, ma130, mn130, ma131, mn131, ma132, mn132, ma133, mn133, ma134, mn134, ma135, mn135, ma136, mn136, ma137, mn137]
  rw [e.1]
  exact ⟨⟨by omega, by omega⟩, hP _ (Fr.up (by omega) (by omega)) (hM.rf (k := 0) (by omega))⟩
theorem m_no {n : Int} {D s : Mem} {P : Int → Mem → Prop} (hM : MS D s) (hW : WS n s) (hn : n < 1000000) (hP : ∀ D', Fr 124 138 D D' → MS D' (sRf s 4) → P (-3) D') : zC miX6_no [zr 124] D P := by
  have e := hM.2.2.2.2.1
  have w := hW.2.2.2
  refine e_X6_no ?_
  simp only [tX6_no_0, w_ic, w_lc, w_lds, w_ild, w_lld, w_ald, w_ist, w_lst, w_ast, w_iinc, w_iadd, w_isub, w_imul, w_idiv, w_irem, w_iand, w_ior, w_ixor, w_ishl, w_ishr, w_iushr, w_ineg, w_ladd, w_lsub, w_lmul, w_ldiv, w_lrem, w_lcmp, w_i2l, w_l2i, w_dup, w_pop, w_dup2, w_ieq, w_zeq, w_ine, w_zne, w_ilt, w_zlt, w_ige, w_zge, w_igt, w_zgt, w_ile, w_zle, w_cut, w_tsw, zsw, w_iret, w_zret, w_lret, w_vret, w_nret, w_getI, w_getJ, w_getR, w_putI, w_putZ, w_putJ, w_iald, w_zald, w_iast, w_zast, w_alen, w_sI, w_sJ, w_sV, w_vI, w_vJ, w_vV, w_tI, w_mmax, w_mmin, w_mabs, w_lmax, w_acopy, gL, sL, kl_i, kl_l, kl_r, kl_s, kl_m, qI_i, qJ_l, qA_r, qA_s, pI_i, pJ_l, pA_r, pS_s, pM_m, pV_v, c1_i, c1_r, c1_s, c1_m, cS_0, cS_i, cS_l, cS_r, cS_s, cS_m, pN, z_rc_r, zE1, zE2, zE3, true_and, and_true, Nat.zero_add, Nat.reduceAdd, Nat.reduceLeDiff, true_or, or_true, Int.reduceLE, Int.reduceLT, zcmp_l, zcmp_g, zcmp_e, zcmp_le, mo, mf0, mz0, mf1, mz1, mf2, mz2, mf6, mz6, mf10, mz10, mf11, mz11, mf12, mz12, mf13, mz13, mf14, mz14, mf16, mz16, mf17, mz17, mf18, mz18, mf19, mz19, mi3, mi7, mi8, mi9, mi15, mi4, mi5, mi20, ma125, mn125, ma126, mn126, ma127, mn127, ma128, mn128, ma129, mn129, ma130, mn130, ma131, mn131, ma132, mn132, ma133, mn133, ma134, mn134, ma135, mn135, ma136, mn136, ma137, mn137]
  rw [e.2.1]
  exact ⟨⟨by omega, by omega⟩, hP _ (Fr.up (by omega) (by omega)) (hM.rf (k := 1) (by omega))⟩
theorem m_full {n : Int} {D s : Mem} {P : Int → Mem → Prop} (hM : MS D s) (hW : WS n s) (hn : n < 1000000) (hP : ∀ D', Fr 124 138 D D' → MS D' (sRf s 5) → P (-4) D') : zC miX6_full [zr 124] D P := by
  have e := hM.2.2.2.2.1
  have w := hW.2.2.2
  refine e_X6_full ?_
  simp only [tX6_full_0, w_ic, w_lc, w_lds, w_ild, w_lld, w_ald, w_ist, w_lst, w_ast, w_iinc, w_iadd, w_isub, w_imul, w_idiv, w_irem, w_iand, w_ior, w_ixor, w_ishl, w_ishr, w_iushr, w_ineg, w_ladd, w_lsub, w_lmul, w_ldiv, w_lrem, w_lcmp, w_i2l, w_l2i, w_dup, w_pop, w_dup2, w_ieq, w_zeq, w_ine, w_zne, w_ilt, w_zlt, w_ige, w_zge, w_igt, w_zgt, w_ile, w_zle, w_cut, w_tsw, zsw, w_iret, w_zret, w_lret, w_vret, w_nret, w_getI, w_getJ, w_getR, w_putI, w_putZ, w_putJ, w_iald, w_zald, w_iast, w_zast, w_alen, w_sI, w_sJ, w_sV, w_vI, w_vJ, w_vV, w_tI, w_mmax, w_mmin, w_mabs, w_lmax, w_acopy, gL, sL, kl_i, kl_l, kl_r, kl_s, kl_m, qI_i, qJ_l, qA_r, qA_s, pI_i, pJ_l, pA_r, pS_s, pM_m, pV_v, c1_i, c1_r, c1_s, c1_m, cS_0, cS_i, cS_l, cS_r, cS_s, cS_m, pN, z_rc_r, zE1, zE2, zE3, true_and, and_true, Nat.zero_add, Nat.reduceAdd, Nat.reduceLeDiff, true_or, or_true, Int.reduceLE, Int.reduceLT, zcmp_l, zcmp_g, zcmp_e, zcmp_le, mo, mf0, mz0, mf1, mz1, mf2, mz2, mf6, mz6, mf10, mz10, mf11, mz11, mf12, mz12, mf13, mz13, mf14, mz14, mf16, mz16, mf17, mz17, mf18, mz18, mf19, mz19, mi3, mi7, mi8, mi9, mi15, mi4, mi5, mi20, ma125, mn125, ma126, mn126, ma127, mn127, ma128, mn128, ma129, mn129, ma130, mn130, ma131, mn131, ma132, mn132, ma133, mn133, ma134, mn134, ma135, mn135, ma136, mn136, ma137, mn137]
  rw [e.2.2]
  exact ⟨⟨by omega, by omega⟩, hP _ (Fr.up (by omega) (by omega)) (hM.rf (k := 2) (by omega))⟩
theorem m_isGoer {i : Int} {a : Int → Int} {D : Mem} {P : Int → Mem → Prop} (h : MR D 0 a) (n1 : 0 ≤ a 1 ∧ a 1 ≤ 6) (h1 : 0 ≤ i ∧ i < a 1 → P 1 D) (h0 : ¬ (0 ≤ i ∧ i < a 1) → P 0 D) : zC miX6_isGoer [zr 124, zi i] D P := by
  refine e_X6_isGoer ?_
  simp only [tX6_isGoer_0, w_ic, w_lc, w_lds, w_ild, w_lld, w_ald, w_ist, w_lst, w_ast, w_iinc, w_iadd, w_isub, w_imul, w_idiv, w_irem, w_iand, w_ior, w_ixor, w_ishl, w_ishr, w_iushr, w_ineg, w_ladd, w_lsub, w_lmul, w_ldiv, w_lrem, w_lcmp, w_i2l, w_l2i, w_dup, w_pop, w_dup2, w_ieq, w_zeq, w_ine, w_zne, w_ilt, w_zlt, w_ige, w_zge, w_igt, w_zgt, w_ile, w_zle, w_cut, w_tsw, zsw, w_iret, w_zret, w_lret, w_vret, w_nret, w_getI, w_getJ, w_getR, w_putI, w_putZ, w_putJ, w_iald, w_zald, w_iast, w_zast, w_alen, w_sI, w_sJ, w_sV, w_vI, w_vJ, w_vV, w_tI, w_mmax, w_mmin, w_mabs, w_lmax, w_acopy, gL, sL, kl_i, kl_l, kl_r, kl_s, kl_m, qI_i, qJ_l, qA_r, qA_s, pI_i, pJ_l, pA_r, pS_s, pM_m, pV_v, c1_i, c1_r, c1_s, c1_m, cS_0, cS_i, cS_l, cS_r, cS_s, cS_m, pN, z_rc_r, zE1, zE2, zE3, true_and, and_true, Nat.zero_add, Nat.reduceAdd, Nat.reduceLeDiff, true_or, or_true, Int.reduceLE, Int.reduceLT, zcmp_l, zcmp_g, zcmp_e, zcmp_le, mo, mf0, mz0, mf1, mz1, mf2, mz2, mf6, mz6, mf10, mz10, mf11, mz11, mf12, mz12, mf13, mz13, mf14, mz14, mf16, mz16, mf17, mz17, mf18, mz18, mf19, mz19, mi3, mi7, mi8, mi9, mi15, mi4, mi5, mi20, ma125, mn125, ma126, mn126, ma127, mn127, ma128, mn128, ma129, mn129, ma130, mn130, ma131, mn131, ma132, mn132, ma133, mn133, ma134, mn134, ma135, mn135, ma136, mn136, ma137, mn137]
  rw [h.z (by omega) (by omega)]
  exact ⟨⟨by omega, by omega⟩, m_in (fun q => ⟨Or.inr rfl, h1 (by omega)⟩) (fun q => ⟨Or.inl rfl, h0 (by omega)⟩)⟩
theorem m_isWindow {i : Int} {a : Int → Int} {D : Mem} {P : Int → Mem → Prop} (h : MR D 0 a) (n1 : 0 ≤ a 2 ∧ a 2 ≤ 4) (h1 : 0 ≤ i ∧ i < a 2 → P 1 D) (h0 : ¬ (0 ≤ i ∧ i < a 2) → P 0 D) : zC miX6_isWindow [zr 124, zi i] D P := by
  refine e_X6_isWindow ?_
  simp only [tX6_isWindow_0, w_ic, w_lc, w_lds, w_ild, w_lld, w_ald, w_ist, w_lst, w_ast, w_iinc, w_iadd, w_isub, w_imul, w_idiv, w_irem, w_iand, w_ior, w_ixor, w_ishl, w_ishr, w_iushr, w_ineg, w_ladd, w_lsub, w_lmul, w_ldiv, w_lrem, w_lcmp, w_i2l, w_l2i, w_dup, w_pop, w_dup2, w_ieq, w_zeq, w_ine, w_zne, w_ilt, w_zlt, w_ige, w_zge, w_igt, w_zgt, w_ile, w_zle, w_cut, w_tsw, zsw, w_iret, w_zret, w_lret, w_vret, w_nret, w_getI, w_getJ, w_getR, w_putI, w_putZ, w_putJ, w_iald, w_zald, w_iast, w_zast, w_alen, w_sI, w_sJ, w_sV, w_vI, w_vJ, w_vV, w_tI, w_mmax, w_mmin, w_mabs, w_lmax, w_acopy, gL, sL, kl_i, kl_l, kl_r, kl_s, kl_m, qI_i, qJ_l, qA_r, qA_s, pI_i, pJ_l, pA_r, pS_s, pM_m, pV_v, c1_i, c1_r, c1_s, c1_m, cS_0, cS_i, cS_l, cS_r, cS_s, cS_m, pN, z_rc_r, zE1, zE2, zE3, true_and, and_true, Nat.zero_add, Nat.reduceAdd, Nat.reduceLeDiff, true_or, or_true, Int.reduceLE, Int.reduceLT, zcmp_l, zcmp_g, zcmp_e, zcmp_le, mo, mf0, mz0, mf1, mz1, mf2, mz2, mf6, mz6, mf10, mz10, mf11, mz11, mf12, mz12, mf13, mz13, mf14, mz14, mf16, mz16, mf17, mz17, mf18, mz18, mf19, mz19, mi3, mi7, mi8, mi9, mi15, mi4, mi5, mi20, ma125, mn125, ma126, mn126, ma127, mn127, ma128, mn128, ma129, mn129, ma130, mn130, ma131, mn131, ma132, mn132, ma133, mn133, ma134, mn134, ma135, mn135, ma136, mn136, ma137, mn137]
  rw [h.z (by omega) (by omega)]
  exact ⟨⟨by omega, by omega⟩, m_in (fun q => ⟨Or.inr rfl, h1 (by omega)⟩) (fun q => ⟨Or.inl rfl, h0 (by omega)⟩)⟩
theorem m_isLadder {i : Int} {a : Int → Int} {D : Mem} {P : Int → Mem → Prop} (h : MR D 0 a) (n1 : 0 ≤ a 0 ∧ a 0 ≤ 6) (h1 : 0 ≤ i ∧ i < a 0 → P 1 D) (h0 : ¬ (0 ≤ i ∧ i < a 0) → P 0 D) : zC miX6_isLadder [zr 124, zi i] D P := by
  refine e_X6_isLadder ?_
  simp only [tX6_isLadder_0, w_ic, w_lc, w_lds, w_ild, w_lld, w_ald, w_ist, w_lst, w_ast, w_iinc, w_iadd, w_isub, w_imul, w_idiv, w_irem, w_iand, w_ior, w_ixor, w_ishl, w_ishr, w_iushr, w_ineg, w_ladd, w_lsub, w_lmul, w_ldiv, w_lrem, w_lcmp, w_i2l, w_l2i, w_dup, w_pop, w_dup2, w_ieq, w_zeq, w_ine, w_zne, w_ilt, w_zlt, w_ige, w_zge, w_igt, w_zgt, w_ile, w_zle, w_cut, w_tsw, zsw, w_iret, w_zret, w_lret, w_vret, w_nret, w_getI, w_getJ, w_getR, w_putI, w_putZ, w_putJ, w_iald, w_zald, w_iast, w_zast, w_alen, w_sI, w_sJ, w_sV, w_vI, w_vJ, w_vV, w_tI, w_mmax, w_mmin, w_mabs, w_lmax, w_acopy, gL, sL, kl_i, kl_l, kl_r, kl_s, kl_m, qI_i, qJ_l, qA_r, qA_s, pI_i, pJ_l, pA_r, pS_s, pM_m, pV_v, c1_i, c1_r, c1_s, c1_m, cS_0, cS_i, cS_l, cS_r, cS_s, cS_m, pN, z_rc_r, zE1, zE2, zE3, true_and, and_true, Nat.zero_add, Nat.reduceAdd, Nat.reduceLeDiff, true_or, or_true, Int.reduceLE, Int.reduceLT, zcmp_l, zcmp_g, zcmp_e, zcmp_le, mo, mf0, mz0, mf1, mz1, mf2, mz2, mf6, mz6, mf10, mz10, mf11, mz11, mf12, mz12, mf13, mz13, mf14, mz14, mf16, mz16, mf17, mz17, mf18, mz18, mf19, mz19, mi3, mi7, mi8, mi9, mi15, mi4, mi5, mi20, ma125, mn125, ma126, mn126, ma127, mn127, ma128, mn128, ma129, mn129, ma130, mn130, ma131, mn131, ma132, mn132, ma133, mn133, ma134, mn134, ma135, mn135, ma136, mn136, ma137, mn137]
  rw [h.z (by omega) (by omega)]
  exact ⟨⟨by omega, by omega⟩, m_in (fun q => ⟨Or.inr rfl, h1 (by omega)⟩) (fun q => ⟨Or.inl rfl, h0 (by omega)⟩)⟩
theorem m_empties {r : Int} {D : Mem} {P : Int → Mem → Prop} (hr : r = 0 ∨ r = 819) (hP : ∀ D', FR r D D' → MR D' r (fun _ => 0) → P 0 D') : zC miX6_empties [zr 124, zi r] D P := by
  have loop : ∀ (m : Nat) (k : Int) (D1 : Mem), (273 - k).toNat = m → 0 ≤ k → k ≤ 273 → FR r D D1 → (∀ j, 0 ≤ j → j < k → D1 125 (r + j) = 0) → zW miX6_empties P 2 [zr 124, zi r, zi k] D1 := by
    intro m
    induction m with
    | zero =>
      intro k D1 hm k0 k1 hf hv
      refine sX6_empties_2 _ _ _ _ _ ?_
      simp only [tX6_empties_2, w_ic, w_lc, w_lds, w_ild, w_lld, w_ald, w_ist, w_lst, w_ast, w_iinc, w_iadd, w_isub, w_imul, w_idiv, w_irem, w_iand, w_ior, w_ixor, w_ishl, w_ishr, w_iushr, w_ineg, w_ladd, w_lsub, w_lmul, w_ldiv, w_lrem, w_lcmp, w_i2l, w_l2i, w_dup, w_pop, w_dup2, w_ieq, w_zeq, w_ine, w_zne, w_ilt, w_zlt, w_ige, w_zge, w_igt, w_zgt, w_ile, w_zle, w_cut, w_tsw, zsw, w_iret, w_zret, w_lret, w_vret, w_nret, w_getI, w_getJ, w_getR, w_putI, w_putZ, w_putJ, w_iald, w_zald, w_iast, w_zast, w_alen, w_sI, w_sJ, w_sV, w_vI, w_vJ, w_vV, w_tI, w_mmax, w_mmin, w_mabs, w_lmax, w_acopy, gL, sL, kl_i, kl_l, kl_r, kl_s, kl_m, qI_i, qJ_l, qA_r, qA_s, pI_i, pJ_l, pA_r, pS_s, pM_m, pV_v, c1_i, c1_r, c1_s, c1_m, cS_0, cS_i, cS_l, cS_r, cS_s, cS_m, pN, z_rc_r, zE1, zE2, zE3, true_and, and_true, Nat.zero_add, Nat.reduceAdd, Nat.reduceLeDiff, true_or, or_true, Int.reduceLE, Int.reduceLT, zcmp_l, zcmp_g, zcmp_e, zcmp_le, mo, mf0, mz0, mf1, mz1, mf2, mz2, mf6, mz6, mf10, mz10, mf11, mz11, mf12, mz12, mf13, mz13, mf14, mz14, mf16, mz16, mf17, mz17, mf18, mz18, mf19, mz19, mi3, mi7, mi8, mi9, mi15, mi4, mi5, mi20, ma125, mn125, ma126, mn126, ma127, mn127, ma128, mn128, ma129, mn129, ma130, mn130, ma131, mn131, ma132, mn132, ma133, mn133, ma134, mn134, ma135, mn135, ma136, mn136, ma137, mn137]
      exact ⟨fun _ => hP D1 hf fun j p q => hv j p (by omega), fun w => absurd (by omega) w⟩
    | succ m ih =>
      intro k D1 hm k0 k1 hf hv
      refine sX6_empties_2 _ _ _ _ _ ?_
      simp only [tX6_empties_2, w_ic, w_lc, w_lds, w_ild, w_lld, w_ald, w_ist, w_lst, w_ast, w_iinc, w_iadd, w_isub, w_imul, w_idiv, w_irem, w_iand, w_ior, w_ixor, w_ishl, w_ishr, w_iushr, w_ineg, w_ladd, w_lsub, w_lmul, w_ldiv, w_lrem, w_lcmp, w_i2l, w_l2i, w_dup, w_pop, w_dup2, w_ieq, w_zeq, w_ine, w_zne, w_ilt, w_zlt, w_ige, w_zge, w_igt, w_zgt, w_ile, w_zle, w_cut, w_tsw, zsw, w_iret, w_zret, w_lret, w_vret, w_nret, w_getI, w_getJ, w_getR, w_putI, w_putZ, w_putJ, w_iald, w_zald, w_iast, w_zast, w_alen, w_sI, w_sJ, w_sV, w_vI, w_vJ, w_vV, w_tI, w_mmax, w_mmin, w_mabs, w_lmax, w_acopy, gL, sL, kl_i, kl_l, kl_r, kl_s, kl_m, qI_i, qJ_l, qA_r, qA_s, pI_i, pJ_l, pA_r, pS_s, pM_m, pV_v, c1_i, c1_r, c1_s, c1_m, cS_0, cS_i, cS_l, cS_r, cS_s, cS_m, pN, z_rc_r, zE1, zE2, zE3, true_and, and_true, Nat.zero_add, Nat.reduceAdd, Nat.reduceLeDiff, true_or, or_true, Int.reduceLE, Int.reduceLT, zcmp_l, zcmp_g, zcmp_e, zcmp_le, mo, mf0, mz0, mf1, mz1, mf2, mz2, mf6, mz6, mf10, mz10, mf11, mz11, mf12, mz12, mf13, mz13, mf14, mz14, mf16, mz16, mf17, mz17, mf18, mz18, mf19, mz19, mi3, mi7, mi8, mi9, mi15, mi4, mi5, mi20, ma125, mn125, ma126, mn126, ma127, mn127, ma128, mn128, ma129, mn129, ma130, mn130, ma131, mn131, ma132, mn132, ma133, mn133, ma134, mn134, ma135, mn135, ma136, mn136, ma137, mn137]
      refine ⟨fun w => absurd w (by omega), fun _ => ⟨⟨by omega, by omega⟩, by omega, by omega, ⟨by omega, by omega⟩, ?_⟩⟩
      refine ih (k + 1) _ (by omega) (by omega) (by omega) (hf.trans (FR.up (by omega) (by omega))) fun j p q => ?_
      by_cases e : j = k
      · rw [e, zU_s]
      · rw [zU_k (by omega)]; exact hv j p (by omega)
  refine e_X6_empties ?_
  simp only [tX6_empties_0, w_ic, w_lc, w_lds, w_ild, w_lld, w_ald, w_ist, w_lst, w_ast, w_iinc, w_iadd, w_isub, w_imul, w_idiv, w_irem, w_iand, w_ior, w_ixor, w_ishl, w_ishr, w_iushr, w_ineg, w_ladd, w_lsub, w_lmul, w_ldiv, w_lrem, w_lcmp, w_i2l, w_l2i, w_dup, w_pop, w_dup2, w_ieq, w_zeq, w_ine, w_zne, w_ilt, w_zlt, w_ige, w_zge, w_igt, w_zgt, w_ile, w_zle, w_cut, w_tsw, zsw, w_iret, w_zret, w_lret, w_vret, w_nret, w_getI, w_getJ, w_getR, w_putI, w_putZ, w_putJ, w_iald, w_zald, w_iast, w_zast, w_alen, w_sI, w_sJ, w_sV, w_vI, w_vJ, w_vV, w_tI, w_mmax, w_mmin, w_mabs, w_lmax, w_acopy, gL, sL, kl_i, kl_l, kl_r, kl_s, kl_m, qI_i, qJ_l, qA_r, qA_s, pI_i, pJ_l, pA_r, pS_s, pM_m, pV_v, c1_i, c1_r, c1_s, c1_m, cS_0, cS_i, cS_l, cS_r, cS_s, cS_m, pN, z_rc_r, zE1, zE2, zE3, true_and, and_true, Nat.zero_add, Nat.reduceAdd, Nat.reduceLeDiff, true_or, or_true, Int.reduceLE, Int.reduceLT, zcmp_l, zcmp_g, zcmp_e, zcmp_le, mo, mf0, mz0, mf1, mz1, mf2, mz2, mf6, mz6, mf10, mz10, mf11, mz11, mf12, mz12, mf13, mz13, mf14, mz14, mf16, mz16, mf17, mz17, mf18, mz18, mf19, mz19, mi3, mi7, mi8, mi9, mi15, mi4, mi5, mi20, ma125, mn125, ma126, mn126, ma127, mn127, ma128, mn128, ma129, mn129, ma130, mn130, ma131, mn131, ma132, mn132, ma133, mn133, ma134, mn134, ma135, mn135, ma136, mn136, ma137, mn137]
  exact loop _ 0 D rfl (by omega) (by omega) FR.rfl (fun j p q => by omega)
theorem m_copy {r t : Int} {a : Int → Int} {D : Mem} {P : Int → Mem → Prop} (r0 : 0 ≤ r ∧ r ≤ 819) (t0 : 0 ≤ t ∧ t ≤ 819) (hrt : r + 273 ≤ t ∨ t + 273 ≤ r) (h : MR D r a) (hP : ∀ D', FR t D D' → MR D' t a → P 0 D') : zC miX6_copy [zr 124, zi r, zi t] D P := by
  have loop : ∀ (m : Nat) (k : Int) (D1 : Mem), (273 - k).toNat = m → 0 ≤ k → k ≤ 273 → FR t D D1 → (∀ j, 0 ≤ j → j < k → D1 125 (t + j) = a j) → zW miX6_copy P 2 [zr 124, zi r, zi t, zi k] D1 := by
    intro m
    induction m with
    | zero =>
      intro k D1 hm k0 k1 hf hv
      refine sX6_copy_2 _ _ _ _ _ ?_
      simp only [tX6_copy_2, w_ic, w_lc, w_lds, w_ild, w_lld, w_ald, w_ist, w_lst, w_ast, w_iinc, w_iadd, w_isub, w_imul, w_idiv, w_irem, w_iand, w_ior, w_ixor, w_ishl, w_ishr, w_iushr, w_ineg, w_ladd, w_lsub, w_lmul, w_ldiv, w_lrem, w_lcmp, w_i2l, w_l2i, w_dup, w_pop, w_dup2, w_ieq, w_zeq, w_ine, w_zne, w_ilt, w_zlt, w_ige, w_zge, w_igt, w_zgt, w_ile, w_zle, w_cut, w_tsw, zsw, w_iret, w_zret, w_lret, w_vret, w_nret, w_getI, w_getJ, w_getR, w_putI, w_putZ, w_putJ, w_iald, w_zald, w_iast, w_zast, w_alen, w_sI, w_sJ, w_sV, w_vI, w_vJ, w_vV, w_tI, w_mmax, w_mmin, w_mabs, w_lmax, w_acopy, gL, sL, kl_i, kl_l, kl_r, kl_s, kl_m, qI_i, qJ_l, qA_r, qA_s, pI_i, pJ_l, pA_r, pS_s, pM_m, pV_v, c1_i, c1_r, c1_s, c1_m, cS_0, cS_i, cS_l, cS_r, cS_s, cS_m, pN, z_rc_r, zE1, zE2, zE3, true_and, and_true, Nat.zero_add, Nat.reduceAdd, Nat.reduceLeDiff, true_or, or_true, Int.reduceLE, Int.reduceLT, zcmp_l, zcmp_g, zcmp_e, zcmp_le, mo, mf0, mz0, mf1, mz1, mf2, mz2, mf6, mz6, mf10, mz10, mf11, mz11, mf12, mz12, mf13, mz13, mf14, mz14, mf16, mz16, mf17, mz17, mf18, mz18, mf19, mz19, mi3, mi7, mi8, mi9, mi15, mi4, mi5, mi20, ma125, mn125, ma126, mn126, ma127, mn127, ma128, mn128, ma129, mn129, ma130, mn130, ma131, mn131, ma132, mn132, ma133, mn133, ma134, mn134, ma135, mn135, ma136, mn136, ma137, mn137]
      exact ⟨fun _ => hP D1 hf fun j p q => hv j p (by omega), fun w => absurd (by omega) w⟩
    | succ m ih =>
      intro k D1 hm k0 k1 hf hv
      refine sX6_copy_2 _ _ _ _ _ ?_
      simp only [tX6_copy_2, w_ic, w_lc, w_lds, w_ild, w_lld, w_ald, w_ist, w_lst, w_ast, w_iinc, w_iadd, w_isub, w_imul, w_idiv, w_irem, w_iand, w_ior, w_ixor, w_ishl, w_ishr, w_iushr, w_ineg, w_ladd, w_lsub, w_lmul, w_ldiv, w_lrem, w_lcmp, w_i2l, w_l2i, w_dup, w_pop, w_dup2, w_ieq, w_zeq, w_ine, w_zne, w_ilt, w_zlt, w_ige, w_zge, w_igt, w_zgt, w_ile, w_zle, w_cut, w_tsw, zsw, w_iret, w_zret, w_lret, w_vret, w_nret, w_getI, w_getJ, w_getR, w_putI, w_putZ, w_putJ, w_iald, w_zald, w_iast, w_zast, w_alen, w_sI, w_sJ, w_sV, w_vI, w_vJ, w_vV, w_tI, w_mmax, w_mmin, w_mabs, w_lmax, w_acopy, gL, sL, kl_i, kl_l, kl_r, kl_s, kl_m, qI_i, qJ_l, qA_r, qA_s, pI_i, pJ_l, pA_r, pS_s, pM_m, pV_v, c1_i, c1_r, c1_s, c1_m, cS_0, cS_i, cS_l, cS_r, cS_s, cS_m, pN, z_rc_r, zE1, zE2, zE3, true_and, and_true, Nat.zero_add, Nat.reduceAdd, Nat.reduceLeDiff, true_or, or_true, Int.reduceLE, Int.reduceLT, zcmp_l, zcmp_g, zcmp_e, zcmp_le, mo, mf0, mz0, mf1, mz1, mf2, mz2, mf6, mz6, mf10, mz10, mf11, mz11, mf12, mz12, mf13, mz13, mf14, mz14, mf16, mz16, mf17, mz17, mf18, mz18, mf19, mz19, mi3, mi7, mi8, mi9, mi15, mi4, mi5, mi20, ma125, mn125, ma126, mn126, ma127, mn127, ma128, mn128, ma129, mn129, ma130, mn130, ma131, mn131, ma132, mn132, ma133, mn133, ma134, mn134, ma135, mn135, ma136, mn136, ma137, mn137]
      rw [hf.2 (r + k) (by omega), h k k0 (by omega)]
      refine ⟨fun w => absurd w (by omega), fun _ => ⟨⟨by omega, by omega⟩, ⟨by omega, by omega⟩, by omega, by omega, by omega, by omega, ⟨by omega, by omega⟩, ?_⟩⟩
      refine ih (k + 1) _ (by omega) (by omega) (by omega) (hf.trans (FR.up (by omega) (by omega))) fun j p q => ?_
      by_cases e : j = k
      · rw [e, zU_s]
      · rw [zU_k (by omega)]; exact hv j p (by omega)
  refine e_X6_copy ?_
  simp only [tX6_copy_0, w_ic, w_lc, w_lds, w_ild, w_lld, w_ald, w_ist, w_lst, w_ast, w_iinc, w_iadd, w_isub, w_imul, w_idiv, w_irem, w_iand, w_ior, w_ixor, w_ishl, w_ishr, w_iushr, w_ineg, w_ladd, w_lsub, w_lmul, w_ldiv, w_lrem, w_lcmp, w_i2l, w_l2i, w_dup, w_pop, w_dup2, w_ieq, w_zeq, w_ine, w_zne, w_ilt, w_zlt, w_ige, w_zge, w_igt, w_zgt, w_ile, w_zle, w_cut, w_tsw, zsw, w_iret, w_zret, w_lret, w_vret, w_nret, w_getI, w_getJ, w_getR, w_putI, w_putZ, w_putJ, w_iald, w_zald, w_iast, w_zast, w_alen, w_sI, w_sJ, w_sV, w_vI, w_vJ, w_vV, w_tI, w_mmax, w_mmin, w_mabs, w_lmax, w_acopy, gL, sL, kl_i, kl_l, kl_r, kl_s, kl_m, qI_i, qJ_l, qA_r, qA_s, pI_i, pJ_l, pA_r, pS_s, pM_m, pV_v, c1_i, c1_r, c1_s, c1_m, cS_0, cS_i, cS_l, cS_r, cS_s, cS_m, pN, z_rc_r, zE1, zE2, zE3, true_and, and_true, Nat.zero_add, Nat.reduceAdd, Nat.reduceLeDiff, true_or, or_true, Int.reduceLE, Int.reduceLT, zcmp_l, zcmp_g, zcmp_e, zcmp_le, mo, mf0, mz0, mf1, mz1, mf2, mz2, mf6, mz6, mf10, mz10, mf11, mz11, mf12, mz12, mf13, mz13, mf14, mz14, mf16, mz16, mf17, mz17, mf18, mz18, mf19, mz19, mi3, mi7, mi8, mi9, mi15, mi4, mi5, mi20, ma125, mn125, ma126, mn126, ma127, mn127, ma128, mn128, ma129, mn129, ma130, mn130, ma131, mn131, ma132, mn132, ma133, mn133, ma134, mn134, ma135, mn135, ma136, mn136, ma137, mn137]
  exact loop _ 0 D rfl (by omega) (by omega) FR.rfl (fun j p q => by omega)
theorem m_back {n : Int} {s : Mem} (hW : WS n s) : mOK miX6_back [zr 124] s (r_back s) := by
  intro D P hM hP
  refine e_X6_back ?_
  simp only [tX6_back_0, w_ic, w_lc, w_lds, w_ild, w_lld, w_ald, w_ist, w_lst, w_ast, w_iinc, w_iadd, w_isub, w_imul, w_idiv, w_irem, w_iand, w_ior, w_ixor, w_ishl, w_ishr, w_iushr, w_ineg, w_ladd, w_lsub, w_lmul, w_ldiv, w_lrem, w_lcmp, w_i2l, w_l2i, w_dup, w_pop, w_dup2, w_ieq, w_zeq, w_ine, w_zne, w_ilt, w_zlt, w_ige, w_zge, w_igt, w_zgt, w_ile, w_zle, w_cut, w_tsw, zsw, w_iret, w_zret, w_lret, w_vret, w_nret, w_getI, w_getJ, w_getR, w_putI, w_putZ, w_putJ, w_iald, w_zald, w_iast, w_zast, w_alen, w_sI, w_sJ, w_sV, w_vI, w_vJ, w_vV, w_tI, w_mmax, w_mmin, w_mabs, w_lmax, w_acopy, gL, sL, kl_i, kl_l, kl_r, kl_s, kl_m, qI_i, qJ_l, qA_r, qA_s, pI_i, pJ_l, pA_r, pS_s, pM_m, pV_v, c1_i, c1_r, c1_s, c1_m, cS_0, cS_i, cS_l, cS_r, cS_s, cS_m, pN, z_rc_r, zE1, zE2, zE3, true_and, and_true, Nat.zero_add, Nat.reduceAdd, Nat.reduceLeDiff, true_or, or_true, Int.reduceLE, Int.reduceLT, zcmp_l, zcmp_g, zcmp_e, zcmp_le, mo, mf0, mz0, mf1, mz1, mf2, mz2, mf6, mz6, mf10, mz10, mf11, mz11, mf12, mz12, mf13, mz13, mf14, mz14, mf16, mz16, mf17, mz17, mf18, mz18, mf19, mz19, mi3, mi7, mi8, mi9, mi15, mi4, mi5, mi20, ma125, mn125, ma126, mn126, ma127, mn127, ma128, mn128, ma129, mn129, ma130, mn130, ma131, mn131, ma132, mn132, ma133, mn133, ma134, mn134, ma135, mn135, ma136, mn136, ma137, mn137]
  rw [hM.1.z (by omega) (by omega)]
  exact m_empties (Or.inl rfl) fun D' f h => hP D' f.n.fr (hM.now f.n h)
theorem m_hasLadder {r c : Int} {a : Int → Int} {D : Mem} {P : Int → Mem → Prop} (hr : rOK r) (hq : MQ D r a) (n0 : 0 ≤ a 0 ∧ a 0 ≤ 6) (h1 : ¬ (∀ k, 0 ≤ k → k < a 0 → a (4 + k) ≠ c) → P 1 D) (h0 : (∀ k, 0 ≤ k → k < a 0 → a (4 + k) ≠ c) → P 0 D) : zC miX6_hasLadder [zr 124, zi r, zi c] D P := by
  have hb := hr.b
  have loop : ∀ (m : Nat) (k is : Int), (a 0 - k).toNat = m → 0 ≤ k → k ≤ a 0 → (is = 0 ∧ (∀ j, 0 ≤ j → j < k → a (4 + j) ≠ c)) ∨ (is = 1 ∧ ∃ j, 0 ≤ j ∧ j < k ∧ a (4 + j) = c) → zW miX6_hasLadder P 5 [zr 124, zi r, zi c, zi is, zi k] D := by
    intro m
    induction m with
    | zero =>
      intro k is hm k0 k1 hi
      refine sX6_hasLadder_5 _ _ _ _ _ ?_
      simp only [tX6_hasLadder_5, w_ic, w_lc, w_lds, w_ild, w_lld, w_ald, w_ist, w_lst, w_ast, w_iinc, w_iadd, w_isub, w_imul, w_idiv, w_irem, w_iand, w_ior, w_ixor, w_ishl, w_ishr, w_iushr, w_ineg, w_ladd, w_lsub, w_lmul, w_ldiv, w_lrem, w_lcmp, w_i2l, w_l2i, w_dup, w_pop, w_dup2, w_ieq, w_zeq, w_ine, w_zne, w_ilt, w_zlt, w_ige, w_zge, w_igt, w_zgt, w_ile, w_zle, w_cut, w_tsw, zsw, w_iret, w_zret, w_lret, w_vret, w_nret, w_getI, w_getJ, w_getR, w_putI, w_putZ, w_putJ, w_iald, w_zald, w_iast, w_zast, w_alen, w_sI, w_sJ, w_sV, w_vI, w_vJ, w_vV, w_tI, w_mmax, w_mmin, w_mabs, w_lmax, w_acopy, gL, sL, kl_i, kl_l, kl_r, kl_s, kl_m, qI_i, qJ_l, qA_r, qA_s, pI_i, pJ_l, pA_r, pS_s, pM_m, pV_v, c1_i, c1_r, c1_s, c1_m, cS_0, cS_i, cS_l, cS_r, cS_s, cS_m, pN, z_rc_r, zE1, zE2, zE3, true_and, and_true, Nat.zero_add, Nat.reduceAdd, Nat.reduceLeDiff, true_or, or_true, Int.reduceLE, Int.reduceLT, zcmp_l, zcmp_g, zcmp_e, zcmp_le, mo, mf0, mz0, mf1, mz1, mf2, mz2, mf6, mz6, mf10, mz10, mf11, mz11, mf12, mz12, mf13, mz13, mf14, mz14, mf16, mz16, mf17, mz17, mf18, mz18, mf19, mz19, mi3, mi7, mi8, mi9, mi15, mi4, mi5, mi20, ma125, mn125, ma126, mn126, ma127, mn127, ma128, mn128, ma129, mn129, ma130, mn130, ma131, mn131, ma132, mn132, ma133, mn133, ma134, mn134, ma135, mn135, ma136, mn136, ma137, mn137]
      rw [hq 0 (by omega) (by omega)]
      refine ⟨⟨by omega, by omega⟩, by omega, by omega, fun _ => ?_, fun w => absurd (by omega) w⟩
      rcases hi with ⟨e, h⟩ | ⟨e, j, j0, j1, j2⟩
      · subst e
        exact ⟨Or.inl rfl, h0 fun j j0 j1 => h j j0 (by omega)⟩
      · subst e
        exact ⟨Or.inr rfl, h1 fun w => w j j0 (by omega) j2⟩
    | succ m ih =>
      intro k is hm k0 k1 hi
      have up : ∀ is' : Int, ((is' = 0 ∧ (∀ j, 0 ≤ j → j < k + 1 → a (4 + j) ≠ c)) ∨ (is' = 1 ∧ ∃ j, 0 ≤ j ∧ j < k + 1 ∧ a (4 + j) = c)) → zR (k + 1) ∧ zW miX6_hasLadder P 5 [zr 124, zi r, zi c, zi is', zi (k + 1)] D := fun is' h => ⟨⟨by omega, by omega⟩, ih (k + 1) is' (by omega) (by omega) (by omega) h⟩
      refine sX6_hasLadder_5 _ _ _ _ _ ?_
      simp only [tX6_hasLadder_5, w_ic, w_lc, w_lds, w_ild, w_lld, w_ald, w_ist, w_lst, w_ast, w_iinc, w_iadd, w_isub, w_imul, w_idiv, w_irem, w_iand, w_ior, w_ixor, w_ishl, w_ishr, w_iushr, w_ineg, w_ladd, w_lsub, w_lmul, w_ldiv, w_lrem, w_lcmp, w_i2l, w_l2i, w_dup, w_pop, w_dup2, w_ieq, w_zeq, w_ine, w_zne, w_ilt, w_zlt, w_ige, w_zge, w_igt, w_zgt, w_ile, w_zle, w_cut, w_tsw, zsw, w_iret, w_zret, w_lret, w_vret, w_nret, w_getI, w_getJ, w_getR, w_putI, w_putZ, w_putJ, w_iald, w_zald, w_iast, w_zast, w_alen, w_sI, w_sJ, w_sV, w_vI, w_vJ, w_vV, w_tI, w_mmax, w_mmin, w_mabs, w_lmax, w_acopy, gL, sL, kl_i, kl_l, kl_r, kl_s, kl_m, qI_i, qJ_l, qA_r, qA_s, pI_i, pJ_l, pA_r, pS_s, pM_m, pV_v, c1_i, c1_r, c1_s, c1_m, cS_0, cS_i, cS_l, cS_r, cS_s, cS_m, pN, z_rc_r, zE1, zE2, zE3, true_and, and_true, Nat.zero_add, Nat.reduceAdd, Nat.reduceLeDiff, true_or, or_true, Int.reduceLE, Int.reduceLT, zcmp_l, zcmp_g, zcmp_e, zcmp_le, mo, mf0, mz0, mf1, mz1, mf2, mz2, mf6, mz6, mf10, mz10, mf11, mz11, mf12, mz12, mf13, mz13, mf14, mz14, mf16, mz16, mf17, mz17, mf18, mz18, mf19, mz19, mi3, mi7, mi8, mi9, mi15, mi4, mi5, mi20, ma125, mn125, ma126, mn126, ma127, mn127, ma128, mn128, ma129, mn129, ma130, mn130, ma131, mn131, ma132, mn132, ma133, mn133, ma134, mn134, ma135, mn135, ma136, mn136, ma137, mn137]
      rw [hq 0 (by omega) (by omega), hq.t 4 k (by omega) (by omega)]
      refine ⟨⟨by omega, by omega⟩, by omega, by omega, fun w => absurd w (by omega), fun _ => ⟨fun q => up 1 (Or.inr ⟨rfl, ?_⟩), fun q => ⟨⟨by omega, by omega⟩, ⟨by omega, by omega⟩, by omega, by omega, fun q2 => up 0 (Or.inl ⟨rfl, ?_⟩), fun q2 => up 1 (Or.inr ⟨rfl, k, k0, by omega, Decidable.not_not.mp q2⟩)⟩⟩⟩
      · rcases hi with ⟨e, _⟩ | ⟨_, j, j0, j1, j2⟩
        · exact absurd e q
        · exact ⟨j, j0, by omega, j2⟩
      · intro j j0 j1
        rcases hi with ⟨_, h⟩ | ⟨e, _⟩
        · by_cases e : j = k
          · rw [e]; exact q2
          · exact h j j0 (by omega)
        · omega
  refine e_X6_hasLadder ?_
  simp only [tX6_hasLadder_0, w_ic, w_lc, w_lds, w_ild, w_lld, w_ald, w_ist, w_lst, w_ast, w_iinc, w_iadd, w_isub, w_imul, w_idiv, w_irem, w_iand, w_ior, w_ixor, w_ishl, w_ishr, w_iushr, w_ineg, w_ladd, w_lsub, w_lmul, w_ldiv, w_lrem, w_lcmp, w_i2l, w_l2i, w_dup, w_pop, w_dup2, w_ieq, w_zeq, w_ine, w_zne, w_ilt, w_zlt, w_ige, w_zge, w_igt, w_zgt, w_ile, w_zle, w_cut, w_tsw, zsw, w_iret, w_zret, w_lret, w_vret, w_nret, w_getI, w_getJ, w_getR, w_putI, w_putZ, w_putJ, w_iald, w_zald, w_iast, w_zast, w_alen, w_sI, w_sJ, w_sV, w_vI, w_vJ, w_vV, w_tI, w_mmax, w_mmin, w_mabs, w_lmax, w_acopy, gL, sL, kl_i, kl_l, kl_r, kl_s, kl_m, qI_i, qJ_l, qA_r, qA_s, pI_i, pJ_l, pA_r, pS_s, pM_m, pV_v, c1_i, c1_r, c1_s, c1_m, cS_0, cS_i, cS_l, cS_r, cS_s, cS_m, pN, z_rc_r, zE1, zE2, zE3, true_and, and_true, Nat.zero_add, Nat.reduceAdd, Nat.reduceLeDiff, true_or, or_true, Int.reduceLE, Int.reduceLT, zcmp_l, zcmp_g, zcmp_e, zcmp_le, mo, mf0, mz0, mf1, mz1, mf2, mz2, mf6, mz6, mf10, mz10, mf11, mz11, mf12, mz12, mf13, mz13, mf14, mz14, mf16, mz16, mf17, mz17, mf18, mz18, mf19, mz19, mi3, mi7, mi8, mi9, mi15, mi4, mi5, mi20, ma125, mn125, ma126, mn126, ma127, mn127, ma128, mn128, ma129, mn129, ma130, mn130, ma131, mn131, ma132, mn132, ma133, mn133, ma134, mn134, ma135, mn135, ma136, mn136, ma137, mn137]
  exact loop _ 0 0 rfl (by omega) (by omega) (Or.inl ⟨rfl, fun j j0 j1 => by omega⟩)
theorem m_addsLadder {r c : Int} {a : Int → Int} {D : Mem} {P : Int → Mem → Prop} (hr : rOK r) (h : MR D r a) (n0 : 0 ≤ a 0 ∧ a 0 < 6) (hP : ∀ D', FR r D D' → MR D' r (sAddL a c) → P 0 D') : zC miX6_addsLadder [zr 124, zi r, zi c] D P := by
  have hb := hr.b
  have h1 : MR (zU D 125 (r + 4 + a 0) c) r (zA a (4 + a 0) c) := h.up (by omega)
  have h2 : MR (zU (zU D 125 (r + 4 + a 0) c) 125 (r + 10 + a 0) 1) r (zA (zA a (4 + a 0) c) (10 + a 0) 1) := h1.up (by omega)
  have e1 := h1 0 (by omega) (by omega)
  have e2 := h2 0 (by omega) (by omega)
  rw [zA_n (by omega)] at e1
  rw [zA_n (by omega), zA_n (by omega)] at e2
  refine e_X6_addsLadder ?_
  simp only [tX6_addsLadder_0, w_ic, w_lc, w_lds, w_ild, w_lld, w_ald, w_ist, w_lst, w_ast, w_iinc, w_iadd, w_isub, w_imul, w_idiv, w_irem, w_iand, w_ior, w_ixor, w_ishl, w_ishr, w_iushr, w_ineg, w_ladd, w_lsub, w_lmul, w_ldiv, w_lrem, w_lcmp, w_i2l, w_l2i, w_dup, w_pop, w_dup2, w_ieq, w_zeq, w_ine, w_zne, w_ilt, w_zlt, w_ige, w_zge, w_igt, w_zgt, w_ile, w_zle, w_cut, w_tsw, zsw, w_iret, w_zret, w_lret, w_vret, w_nret, w_getI, w_getJ, w_getR, w_putI, w_putZ, w_putJ, w_iald, w_zald, w_iast, w_zast, w_alen, w_sI, w_sJ, w_sV, w_vI, w_vJ, w_vV, w_tI, w_mmax, w_mmin, w_mabs, w_lmax, w_acopy, gL, sL, kl_i, kl_l, kl_r, kl_s, kl_m, qI_i, qJ_l, qA_r, qA_s, pI_i, pJ_l, pA_r, pS_s, pM_m, pV_v, c1_i, c1_r, c1_s, c1_m, cS_0, cS_i, cS_l, cS_r, cS_s, cS_m, pN, z_rc_r, zE1, zE2, zE3, true_and, and_true, Nat.zero_add, Nat.reduceAdd, Nat.reduceLeDiff, true_or, or_true, Int.reduceLE, Int.reduceLT, zcmp_l, zcmp_g, zcmp_e, zcmp_le, mo, mf0, mz0, mf1, mz1, mf2, mz2, mf6, mz6, mf10, mz10, mf11, mz11, mf12, mz12, mf13, mz13, mf14, mz14, mf16, mz16, mf17, mz17, mf18, mz18, mf19, mz19, mi3, mi7, mi8, mi9, mi15, mi4, mi5, mi20, ma125, mn125, ma126, mn126, ma127, mn127, ma128, mn128, ma129, mn129, ma130, mn130, ma131, mn131, ma132, mn132, ma133, mn133, ma134, mn134, ma135, mn135, ma136, mn136, ma137, mn137]
  rw [h 0 (by omega) (by omega), e1, e2]
  refine ⟨⟨by omega, by omega⟩, ⟨by omega, by omega⟩, by omega, by omega, ⟨by omega, by omega⟩, by omega, by omega, ⟨by omega, by omega⟩, ⟨by omega, by omega⟩, by omega, by omega, ⟨by omega, by omega⟩, hP _ ?_ (h2.up (by omega))⟩
  exact (FR.up (by omega) (by omega)).trans ((FR.up (by omega) (by omega)).trans (FR.up (by omega) (by omega)))
