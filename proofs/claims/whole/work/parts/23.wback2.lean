/-! ===== 23: more writing into a Back ===== -/
theorem c_turnGoer {M : Int} {b : Nat} {a : Int → Int} {i : Int} {D : Mem} {P : Int → Mem → Prop} (hb : zBk b) (h : BK M D b a) (i0 : 0 ≤ i) (i1 : i < a 1) (hP : ∀ D', Fr b (b + 22) D D' → BK M D' b (zA a (40 + i) (1 - a (40 + i))) → P (1 - a (40 + i)) D') : zC miX0_turnGoer [zr b, zi i] D P := by
  have n1 := h.2.2.1.n1
  have hv := (h.2.2.1.w1.2 i i0 i1).2.2.2.2
  have e40 : 16 + 6 * 4 + i = 40 + i := by omega
  refine e_X0_turnGoer ?_
  simp only [tX0_turnGoer_0, w_ic, w_lc, w_lds, w_ild, w_lld, w_ald, w_ist, w_lst, w_ast, w_iinc, w_iadd, w_isub, w_imul, w_idiv, w_irem, w_iand, w_ior, w_ixor, w_ishl, w_ishr, w_iushr, w_ineg, w_ladd, w_lsub, w_lmul, w_ldiv, w_lrem, w_lcmp, w_i2l, w_l2i, w_dup, w_pop, w_dup2, w_ieq, w_zeq, w_ine, w_zne, w_ilt, w_zlt, w_ige, w_zge, w_igt, w_zgt, w_ile, w_zle, w_cut, w_tsw, zsw, w_iret, w_zret, w_lret, w_vret, w_nret, w_getI, w_getJ, w_getR, w_putI, w_putZ, w_putJ, w_iald, w_zald, w_iast, w_zast, w_alen, w_sI, w_sJ, w_sV, w_vI, w_vJ, w_vV, w_tI, w_mmax, w_mmin, w_mabs, w_lmax, w_acopy, gL, sL, kl_i, kl_l, kl_r, kl_s, kl_m, qI_i, qJ_l, qA_r, qA_s, pI_i, pJ_l, pA_r, pS_s, pM_m, pV_v, c1_i, c1_r, c1_s, c1_m, cS_0, cS_i, cS_l, cS_r, cS_s, cS_m, pN, z_rc_r, zE1, zE2, zE3, true_and, and_true, Nat.zero_add, Nat.reduceAdd, Nat.reduceLeDiff, true_or, or_true, hb.o, hb.fr1, hb.zf1, hb.r1.o]
  refine c_gget hb h i0 i1 (by omega) (by omega) ?_
  rw [e40]
  refine ⟨by rcases hv with q | q <;> rw [q] <;> exact ⟨by omega, by omega⟩, ?_⟩
  refine c_gset hb h i0 i1 (by omega) (by omega) (by rw [e40]; exact sTurn_wa h.2.2.1 i0 i1 (z01_f hv)) fun D' d1 d2 => ?_
  rw [e40] at d2
  refine c_gget hb d2 i0 (by rw [zA_n (by omega)]; exact i1) (by omega) (by omega) ?_
  rw [e40, zA_s]
  exact hP D' d1 d2
theorem c_drawLadder {M : Int} {b : Nat} {a : Int → Int} {i : Int} {D : Mem} {P : Int → Mem → Prop} (hb : zBk b) (h : BK M D b a) (i0 : 0 ≤ i) (i1 : i < a 0) (hP : ∀ D', Fr b (b + 22) D D' → BK M D' b (zA a (10 + i) (1 - a (10 + i))) → P (1 - a (10 + i)) D') : zC miX0_drawLadder [zr b, zi i] D P := by
  have n1 := h.2.2.1.n0
  have hv := (h.2.2.1.w0.2 i i0 i1).2
  have e40 : 4 + 6 * 1 + i = 10 + i := by omega
  refine e_X0_drawLadder ?_
  simp only [tX0_drawLadder_0, w_ic, w_lc, w_lds, w_ild, w_lld, w_ald, w_ist, w_lst, w_ast, w_iinc, w_iadd, w_isub, w_imul, w_idiv, w_irem, w_iand, w_ior, w_ixor, w_ishl, w_ishr, w_iushr, w_ineg, w_ladd, w_lsub, w_lmul, w_ldiv, w_lrem, w_lcmp, w_i2l, w_l2i, w_dup, w_pop, w_dup2, w_ieq, w_zeq, w_ine, w_zne, w_ilt, w_zlt, w_ige, w_zge, w_igt, w_zgt, w_ile, w_zle, w_cut, w_tsw, zsw, w_iret, w_zret, w_lret, w_vret, w_nret, w_getI, w_getJ, w_getR, w_putI, w_putZ, w_putJ, w_iald, w_zald, w_iast, w_zast, w_alen, w_sI, w_sJ, w_sV, w_vI, w_vJ, w_vV, w_tI, w_mmax, w_mmin, w_mabs, w_lmax, w_acopy, gL, sL, kl_i, kl_l, kl_r, kl_s, kl_m, qI_i, qJ_l, qA_r, qA_s, pI_i, pJ_l, pA_r, pS_s, pM_m, pV_v, c1_i, c1_r, c1_s, c1_m, cS_0, cS_i, cS_l, cS_r, cS_s, cS_m, pN, z_rc_r, zE1, zE2, zE3, true_and, and_true, Nat.zero_add, Nat.reduceAdd, Nat.reduceLeDiff, true_or, or_true, hb.o, hb.fr0, hb.zf0, hb.r0.o]
  refine c_lget hb h i0 i1 (by omega) (by omega) ?_
  rw [e40]
  refine ⟨by rcases hv with q | q <;> rw [q] <;> exact ⟨by omega, by omega⟩, ?_⟩
  refine c_lset hb h i0 i1 (by omega) (by omega) (by rw [e40]; exact sDraw_wa h.2.2.1 i0 i1 (z01_f hv)) fun D' d1 d2 => ?_
  rw [e40] at d2
  refine c_lget hb d2 i0 (by rw [zA_n (by omega)]; exact i1) (by omega) (by omega) ?_
  rw [e40, zA_s]
  exact hP D' d1 d2
theorem c_addSound {M : Int} {b : Nat} {a : Int → Int} {k m x y : Int} {D : Mem} {P : Int → Mem → Prop} (hb : zBk b) (h : BK M D b a) (h1 : a 54 < 5) (hk : 0 ≤ k ∧ k < a 2) (hm : 0 ≤ m ∧ m ≤ 30) (hx : 1 ≤ x ∧ x ≤ 20) (hP : ∀ D', Fr b (b + 22) D D' → BK M D' b (sAddS a k m x) → P (a 54) D') : zC miX3_add [zr (b + 10), zi k, zi m, zi x, zi y] D P := by
  have n0 := h.2.2.1.n4
  refine c_Rows_add hb.r3 h.1.2.2.2.1 (by rw [h.2.1.s.1]; exact h1) (by omega) fun D' d1 d2 d3 d4 d5 => ?_
  rw [h.2.1.s.1]
  have n : ∀ j, (j < 54 ∨ 70 ≤ j) → sAddS a k m x j = a j := fun j q => sAddS_n (by omega) (by omega) (by omega) (by omega)
  have wa := sAddS_wa h.2.2.1 h1 hk hm hx
  refine hP D' (fun o ho => d1 o (by omega) (by omega)) ?_
  refine h.mk' (fun o ho => ?_) (ZB.mk' (h.2.1.l.of (d1 _ (by omega) (by omega)) (d1 _ (by omega) (by omega)) h.2.2.1.n0.2 fun j hj => n j (by omega)) (h.2.1.g.of (d1 _ (by omega) (by omega)) (d1 _ (by omega) (by omega)) h.2.2.1.n1.2 fun j hj => n j (by omega)) (h.2.1.w.of (d1 _ (by omega) (by omega)) (d1 _ (by omega) (by omega)) h.2.2.1.n2.2 fun j hj => n j (by omega)) (by rw [d1 _ (by omega) (by omega), n 3 (by omega)]; exact h.2.1.m) ?_ (h.2.1.n.of (d1 _ (by omega) (by omega)) (d1 _ (by omega) (by omega)) h.2.2.1.n5.2 fun j hj => n j (by omega)) (h.2.1.k.of (d1 _ (by omega) (by omega)) (d1 _ (by omega) (by omega)) h.2.2.1.n6.2 fun j hj => n j (by omega)) (h.2.1.p.of h.2.2.1 (d1 _ (by omega) (by omega)) (d1 _ (by omega) (by omega)) (n 0 (by omega)) (n 1 (by omega)) fun j _ _ => n j (by omega))) wa (fun o o0 o1 => d1 o (by omega) (by omega))
  · by_cases q : o = b + 10
    · subst q; exact ⟨d2 0 (by decide), d2 1 (by decide)⟩
    · rw [d1 o q (by unfold isRw at ho; omega)]; exact ⟨rfl, rfl⟩
  · obtain ⟨e1, e2, e3, e4⟩ := sAddS_e (a := a) (k := k) (m := m) (x := x) n0.1
    refine zPc.add h.2.1.s d3 (fun j j0 j1 => ?_) (by omega) d5 e1 (fun k c k0 k1 c0 c1 => sAddS_n (by omega) (by omega) (by omega) (by omega))
    refine (d4 j j0 j1).trans ?_
    rcases (by omega : j = 0 ∨ j = 1 ∨ j = 2) with q | q | q
    · subst q
      show k = sAddS a k m x (55 + 3 * a 54 + 0)
      rw [show 55 + 3 * a 54 + 0 = 55 + 3 * a 54 by omega, e2]
    · subst q
      show m = sAddS a k m x (55 + 3 * a 54 + 1)
      rw [show 55 + 3 * a 54 + 1 = 56 + 3 * a 54 by omega, e3]
    · subst q
      show x = sAddS a k m x (55 + 3 * a 54 + 2)
      rw [show 55 + 3 * a 54 + 2 = 57 + 3 * a 54 by omega, e4]
theorem c_addNote {M : Int} {b : Nat} {a : Int → Int} {k f m x : Int} {D : Mem} {P : Int → Mem → Prop} (hb : zBk b) (h : BK M D b a) (h1 : a 70 < 6) (hk : 0 ≤ k ∧ k < a 1) (hf : 0 ≤ f ∧ f ≤ 4) (hm : 0 ≤ m ∧ m ≤ 99) (hx : 0 ≤ x ∧ x ≤ 20) (hP : ∀ D', Fr b (b + 22) D D' → BK M D' b (sAddN a k f m x) → P (a 70) D') : zC miX3_add [zr (b + 13), zi k, zi f, zi m, zi x] D P := by
  have n0 := h.2.2.1.n5
  refine c_Rows_add hb.r4 h.1.2.2.2.2.1 (by rw [h.2.1.n.1]; exact h1) (by omega) fun D' d1 d2 d3 d4 d5 => ?_
  rw [h.2.1.n.1]
  have n : ∀ j, (j < 70 ∨ 95 ≤ j) → sAddN a k f m x j = a j := fun j q => sAddN_n (by omega) (by omega)
  have wa := sAddN_wa h.2.2.1 h1 hk hf hm hx
  refine hP D' (fun o ho => d1 o (by omega) (by omega)) ?_
  refine h.mk' (fun o ho => ?_) (ZB.mk' (h.2.1.l.of (d1 _ (by omega) (by omega)) (d1 _ (by omega) (by omega)) h.2.2.1.n0.2 fun j hj => n j (by omega)) (h.2.1.g.of (d1 _ (by omega) (by omega)) (d1 _ (by omega) (by omega)) h.2.2.1.n1.2 fun j hj => n j (by omega)) (h.2.1.w.of (d1 _ (by omega) (by omega)) (d1 _ (by omega) (by omega)) h.2.2.1.n2.2 fun j hj => n j (by omega)) (by rw [d1 _ (by omega) (by omega), n 3 (by omega)]; exact h.2.1.m) (h.2.1.s.of (d1 _ (by omega) (by omega)) (d1 _ (by omega) (by omega)) h.2.2.1.n4.2 fun j hj => n j (by omega)) ?_ (h.2.1.k.of (d1 _ (by omega) (by omega)) (d1 _ (by omega) (by omega)) h.2.2.1.n6.2 fun j hj => n j (by omega)) (h.2.1.p.of h.2.2.1 (d1 _ (by omega) (by omega)) (d1 _ (by omega) (by omega)) (n 0 (by omega)) (n 1 (by omega)) fun j _ _ => n j (by omega))) wa (fun o o0 o1 => d1 o (by omega) (by omega))
  · by_cases q : o = b + 13
    · subst q; exact ⟨d2 0 (by decide), d2 1 (by decide)⟩
    · rw [d1 o q (by unfold isRw at ho; omega)]; exact ⟨rfl, rfl⟩
  · obtain ⟨e1, e2, e3, e4, e5⟩ := sAddN_e (a := a) (k := k) (f := f) (m := m) (x := x) n0.1
    refine zPc.add h.2.1.n d3 (fun j j0 j1 => ?_) (by omega) d5 e1 (fun k c k0 k1 c0 c1 => sAddN_n (by omega) (by omega))
    refine (d4 j j0 j1).trans ?_
    rcases (by omega : j = 0 ∨ j = 1 ∨ j = 2 ∨ j = 3) with q | q | q | q
    · subst q
      show k = sAddN a k f m x (71 + 4 * a 70 + 0)
      rw [show 71 + 4 * a 70 + 0 = 71 + 4 * a 70 by omega, e2]
    · subst q
      show f = sAddN a k f m x (71 + 4 * a 70 + 1)
      rw [show 71 + 4 * a 70 + 1 = 72 + 4 * a 70 by omega, e3]
    · subst q
      show m = sAddN a k f m x (71 + 4 * a 70 + 2)
      rw [show 71 + 4 * a 70 + 2 = 73 + 4 * a 70 by omega, e4]
    · subst q
      show x = sAddN a k f m x (71 + 4 * a 70 + 3)
      rw [show 71 + 4 * a 70 + 3 = 74 + 4 * a 70 by omega, e5]
theorem c_addMark {M : Int} {b : Nat} {a : Int → Int} {k f m x : Int} {D : Mem} {P : Int → Mem → Prop} (hb : zBk b) (h : BK M D b a) (h1 : a 95 < 6) (hk : 0 ≤ k ∧ k < a 2) (hf : 0 ≤ f ∧ f ≤ 20) (hm : 0 ≤ m ∧ m ≤ 7) (hx : z01 x) (hP : ∀ D', Fr b (b + 22) D D' → BK M D' b (sAddM a k f m x) → P (a 95) D') : zC miX3_add [zr (b + 16), zi k, zi f, zi m, zi x] D P := by
  have n0 := h.2.2.1.n6
  refine c_Rows_add hb.r5 h.1.2.2.2.2.2.1 (by rw [h.2.1.k.1]; exact h1) (by omega) fun D' d1 d2 d3 d4 d5 => ?_
  rw [h.2.1.k.1]
  have n : ∀ j, (j < 95 ∨ 120 ≤ j) → sAddM a k f m x j = a j := fun j q => sAddM_n (by omega) (by omega)
  have wa := sAddM_wa h.2.2.1 h1 hk hf hm hx
  refine hP D' (fun o ho => d1 o (by omega) (by omega)) ?_
  refine h.mk' (fun o ho => ?_) (ZB.mk' (h.2.1.l.of (d1 _ (by omega) (by omega)) (d1 _ (by omega) (by omega)) h.2.2.1.n0.2 fun j hj => n j (by omega)) (h.2.1.g.of (d1 _ (by omega) (by omega)) (d1 _ (by omega) (by omega)) h.2.2.1.n1.2 fun j hj => n j (by omega)) (h.2.1.w.of (d1 _ (by omega) (by omega)) (d1 _ (by omega) (by omega)) h.2.2.1.n2.2 fun j hj => n j (by omega)) (by rw [d1 _ (by omega) (by omega), n 3 (by omega)]; exact h.2.1.m) (h.2.1.s.of (d1 _ (by omega) (by omega)) (d1 _ (by omega) (by omega)) h.2.2.1.n4.2 fun j hj => n j (by omega)) (h.2.1.n.of (d1 _ (by omega) (by omega)) (d1 _ (by omega) (by omega)) h.2.2.1.n5.2 fun j hj => n j (by omega)) ?_ (h.2.1.p.of h.2.2.1 (d1 _ (by omega) (by omega)) (d1 _ (by omega) (by omega)) (n 0 (by omega)) (n 1 (by omega)) fun j _ _ => n j (by omega))) wa (fun o o0 o1 => d1 o (by omega) (by omega))
  · by_cases q : o = b + 16
    · subst q; exact ⟨d2 0 (by decide), d2 1 (by decide)⟩
    · rw [d1 o q (by unfold isRw at ho; omega)]; exact ⟨rfl, rfl⟩
  · obtain ⟨e1, e2, e3, e4, e5⟩ := sAddM_e (a := a) (k := k) (f := f) (m := m) (x := x) n0.1
    refine zPc.add h.2.1.k d3 (fun j j0 j1 => ?_) (by omega) d5 e1 (fun k c k0 k1 c0 c1 => sAddM_n (by omega) (by omega))
    refine (d4 j j0 j1).trans ?_
    rcases (by omega : j = 0 ∨ j = 1 ∨ j = 2 ∨ j = 3) with q | q | q | q
    · subst q
      show k = sAddM a k f m x (96 + 4 * a 95 + 0)
      rw [show 96 + 4 * a 95 + 0 = 96 + 4 * a 95 by omega, e2]
    · subst q
      show f = sAddM a k f m x (96 + 4 * a 95 + 1)
      rw [show 96 + 4 * a 95 + 1 = 97 + 4 * a 95 by omega, e3]
    · subst q
      show m = sAddM a k f m x (96 + 4 * a 95 + 2)
      rw [show 96 + 4 * a 95 + 2 = 98 + 4 * a 95 by omega, e4]
    · subst q
      show x = sAddM a k f m x (96 + 4 * a 95 + 3)
      rw [show 96 + 4 * a 95 + 3 = 99 + 4 * a 95 by omega, e5]
-- what is emptied
theorem BK.clr {M M' : Int} {D D' : Mem} {b : Nat} {a a' : Int → Int} (h : BK M D b a) (o : Nat) (p : Int) (ho : (o = b + 10 ∧ p = 54) ∨ (o = b + 13 ∧ p = 70) ∨ (o = b + 16 ∧ p = 95) ∨ (o = b + 19 ∧ p = 120)) (eD : D' = zU D o 3 0) (ea : a' = zA a p 0) (hw : WA M' a') : BK M' D' b a' := by
  subst eD ea
  have n : ∀ j, j ≠ p → zA a p 0 j = a j := fun j q => zA_n q
  refine h.mk' (fun q hq => zU_rw3 hq) (ZB.mk' (h.2.1.l.of (zU_ne (by omega)) (zU_ne (by omega)) h.2.2.1.n0.2 fun j hj => n j (by omega)) (h.2.1.g.of (zU_ne (by omega)) (zU_ne (by omega)) h.2.2.1.n1.2 fun j hj => n j (by omega)) (h.2.1.w.of (zU_ne (by omega)) (zU_ne (by omega)) h.2.2.1.n2.2 fun j hj => n j (by omega)) (by rw [zU_o (by omega), n 3 (by omega)]; exact h.2.1.m) ?_ ?_ ?_ ?_) hw (fun q q0 q1 => zU_ne (by omega))
  · by_cases q : p = 54
    · rw [q, show o = b + 10 by omega]; exact zPc.nil zU_s zA_s
    · exact h.2.1.s.of (zU_ne (by omega)) (zU_ne (by omega)) h.2.2.1.n4.2 fun j hj => n j (by omega)
  · by_cases q : p = 70
    · rw [q, show o = b + 13 by omega]; exact zPc.nil zU_s zA_s
    · exact h.2.1.n.of (zU_ne (by omega)) (zU_ne (by omega)) h.2.2.1.n5.2 fun j hj => n j (by omega)
  · by_cases q : p = 95
    · rw [q, show o = b + 16 by omega]; exact zPc.nil zU_s zA_s
    · exact h.2.1.k.of (zU_ne (by omega)) (zU_ne (by omega)) h.2.2.1.n6.2 fun j hj => n j (by omega)
  · by_cases q : p = 120
    · rw [q, show o = b + 19 by omega]; exact zPp.nil zU_s zA_s
    · exact h.2.1.p.of h.2.2.1 (zU_ne (by omega)) (zU_ne (by omega)) (n 0 (by omega)) (n 1 (by omega)) fun j _ _ => n j (by omega)
theorem c_noPast {M : Int} {b : Nat} {a : Int → Int} {D : Mem} {P : Int → Mem → Prop} (hb : zBk b) (h : BK M D b a) (hP : ∀ D', Fr b (b + 22) D D' → BK M D' b (zA a 120 0) → P (a 120) D') : zC miX3_empty [zr (b + 19)] D P := by
  refine c_Rows_empty hb.r6 ?_
  rw [h.2.1.p.1]
  exact hP _ (Fr.up (by omega) (by omega)) (h.clr (b + 19) 120 (by omega) rfl rfl (sNo_wa h.2.2.1))
theorem c_noSounds {M : Int} {b : Nat} {a : Int → Int} {D : Mem} {P : Int → Mem → Prop} (hb : zBk b) (h : BK M D b a) (hP : ∀ D', Fr b (b + 22) D D' → BK M D' b (zA a 54 0) → P (a 54) D') : zC miX3_empty [zr (b + 10)] D P := by
  refine c_Rows_empty hb.r3 ?_
  rw [h.2.1.s.1]
  exact hP _ (Fr.up (by omega) (by omega)) (h.clr (b + 10) 54 (by omega) rfl rfl (sForget_wa h.2.2.1 (by omega)))
theorem c_noNotes {M : Int} {b : Nat} {a : Int → Int} {D : Mem} {P : Int → Mem → Prop} (hb : zBk b) (h : BK M D b a) (hP : ∀ D', Fr b (b + 22) D D' → BK M D' b (zA a 70 0) → P (a 70) D') : zC miX3_empty [zr (b + 13)] D P := by
  refine c_Rows_empty hb.r4 ?_
  rw [h.2.1.n.1]
  exact hP _ (Fr.up (by omega) (by omega)) (h.clr (b + 13) 70 (by omega) rfl rfl (sForget_wa h.2.2.1 (by omega)))
theorem c_noMarks {M : Int} {b : Nat} {a : Int → Int} {D : Mem} {P : Int → Mem → Prop} (hb : zBk b) (h : BK M D b a) (hP : ∀ D', Fr b (b + 22) D D' → BK M D' b (zA a 95 0) → P (a 95) D') : zC miX3_empty [zr (b + 16)] D P := by
  refine c_Rows_empty hb.r5 ?_
  rw [h.2.1.k.1]
  exact hP _ (Fr.up (by omega) (by omega)) (h.clr (b + 16) 95 (by omega) rfl rfl (sForget_wa h.2.2.1 (by omega)))
theorem c_reset {M M' : Int} {b : Nat} {a : Int → Int} {D : Mem} {P : Int → Mem → Prop} (hb : zBk b) (h : BK M D b a) (hM : 0 ≤ M') (hP : ∀ D', Fr b (b + 22) D D' → BK M' D' b (fun _ => 0) → P 0 D') : zC miX0_reset [zr b] D P := by
  refine e_X0_reset ?_
  simp only [tX0_reset_0, w_ic, w_lc, w_lds, w_ild, w_lld, w_ald, w_ist, w_lst, w_ast, w_iinc, w_iadd, w_isub, w_imul, w_idiv, w_irem, w_iand, w_ior, w_ixor, w_ishl, w_ishr, w_iushr, w_ineg, w_ladd, w_lsub, w_lmul, w_ldiv, w_lrem, w_lcmp, w_i2l, w_l2i, w_dup, w_pop, w_dup2, w_ieq, w_zeq, w_ine, w_zne, w_ilt, w_zlt, w_ige, w_zge, w_igt, w_zgt, w_ile, w_zle, w_cut, w_tsw, zsw, w_iret, w_zret, w_lret, w_vret, w_nret, w_getI, w_getJ, w_getR, w_putI, w_putZ, w_putJ, w_iald, w_zald, w_iast, w_zast, w_alen, w_sI, w_sJ, w_sV, w_vI, w_vJ, w_vV, w_tI, w_mmax, w_mmin, w_mabs, w_lmax, w_acopy, gL, sL, kl_i, kl_l, kl_r, kl_s, kl_m, qI_i, qJ_l, qA_r, qA_s, pI_i, pJ_l, pA_r, pS_s, pM_m, pV_v, c1_i, c1_r, c1_s, c1_m, cS_0, cS_i, cS_l, cS_r, cS_s, cS_m, pN, z_rc_r, zE1, zE2, zE3, true_and, and_true, Nat.zero_add, Nat.reduceAdd, Nat.reduceLeDiff, true_or, or_true, hb.o, hb.fr0, hb.zf0, hb.fr1, hb.zf1, hb.fr2, hb.zf2, hb.fr3, hb.zf3, hb.fr4, hb.zf4, hb.fr5, hb.zf5, hb.fr6, hb.zf6, hb.m, hb.r0.o, hb.r1.o, hb.r2.o, hb.r3.o, hb.r4.o, hb.r5.o, hb.r6.o]
  refine c_Rows_empty hb.r0 (c_Rows_empty hb.r1 (c_Rows_empty hb.r2 (c_Rows_empty hb.r3 (c_Rows_empty hb.r4 (c_Rows_empty hb.r5 (c_Rows_empty hb.r6 ?_))))))
  refine hP _ (fun o ho => ?_) ?_
  · rw [zU_ne (by omega), zU_ne (by omega), zU_ne (by omega), zU_ne (by omega), zU_ne (by omega), zU_ne (by omega), zU_ne (by omega), zU_ne (by omega)]
  · refine h.mk' (fun o ho => ?_) (ZB.mk' (zPc.nil ?_ rfl) (zPc.nil ?_ rfl) (zPc.nil ?_ rfl) zU_s (zPc.nil ?_ rfl) (zPc.nil ?_ rfl) (zPc.nil ?_ rfl) (zPp.nil ?_ rfl)) (sZero_wa hM) (fun o o0 o1 => ?_)
    · have hob : o ≠ b := by unfold isRw at ho; omega
      refine ⟨?_, ?_⟩
      · rw [zU_o hob, zU_k (by decide), zU_k (by decide), zU_k (by decide), zU_k (by decide), zU_k (by decide), zU_k (by decide), zU_k (by decide)]
      · rw [zU_o hob, zU_k (by decide), zU_k (by decide), zU_k (by decide), zU_k (by decide), zU_k (by decide), zU_k (by decide), zU_k (by decide)]
    · rw [zU_o (by omega), zU_o (by omega), zU_o (by omega), zU_o (by omega), zU_o (by omega), zU_o (by omega), zU_o (by omega), zU_s]
    · rw [zU_o (by omega), zU_o (by omega), zU_o (by omega), zU_o (by omega), zU_o (by omega), zU_o (by omega), zU_s]
    · rw [zU_o (by omega), zU_o (by omega), zU_o (by omega), zU_o (by omega), zU_o (by omega), zU_s]
    · rw [zU_o (by omega), zU_o (by omega), zU_o (by omega), zU_o (by omega), zU_s]
    · rw [zU_o (by omega), zU_o (by omega), zU_o (by omega), zU_s]
    · rw [zU_o (by omega), zU_o (by omega), zU_s]
    · rw [zU_o (by omega), zU_s]
    · rw [zU_ne (by omega), zU_ne (by omega), zU_ne (by omega), zU_ne (by omega), zU_ne (by omega), zU_ne (by omega), zU_ne (by omega), zU_ne (by omega)]
