/-! ===== 27: the class as a whole: its state; what it refuses; calls on ladders, goers, windows, text ===== -/
theorem q0 : z_o zg 0 5 := o_of rfl (by decide)
theorem qf0 : z_fr zg 0 5 0 1 := fr_of rfl (by decide) rfl
theorem qz0 : zf zg 0 0 = 1 := rfl
theorem qf1 : z_fr zg 0 5 1 28 := fr_of rfl (by decide) rfl
theorem qz1 : zf zg 0 1 = 28 := rfl
theorem qf2 : z_fr zg 0 5 2 55 := fr_of rfl (by decide) rfl
theorem qz2 : zf zg 0 2 = 55 := rfl
theorem qf3 : z_fr zg 0 5 3 82 := fr_of rfl (by decide) rfl
theorem qz3 : zf zg 0 3 = 82 := rfl
theorem qp4 : z_f zg 0 5 4 1 := f_of rfl (by decide) rfl
theorem qp5 : z_f zg 0 5 5 1 := f_of rfl (by decide) rfl
theorem qf6 : z_fr zg 0 5 6 109 := fr_of rfl (by decide) rfl
theorem qz6 : zf zg 0 6 = 109 := rfl
theorem qf7 : z_fr zg 0 5 7 112 := fr_of rfl (by decide) rfl
theorem qz7 : zf zg 0 7 = 112 := rfl
theorem qp8 : z_f zg 0 5 8 2 := f_of rfl (by decide) rfl
theorem qp9 : z_f zg 0 5 9 2 := f_of rfl (by decide) rfl
theorem qf10 : z_fr zg 0 5 10 114 := fr_of rfl (by decide) rfl
theorem qz10 : zf zg 0 10 = 114 := rfl
theorem qf11 : z_fr zg 0 5 11 116 := fr_of rfl (by decide) rfl
theorem qz11 : zf zg 0 11 = 116 := rfl
theorem qf12 : z_fr zg 0 5 12 118 := fr_of rfl (by decide) rfl
theorem qz12 : zf zg 0 12 = 118 := rfl
theorem qf13 : z_fr zg 0 5 13 120 := fr_of rfl (by decide) rfl
theorem qz13 : zf zg 0 13 = 120 := rfl
theorem qf14 : z_fr zg 0 5 14 122 := fr_of rfl (by decide) rfl
theorem qz14 : zf zg 0 14 = 122 := rfl
theorem k1o : z_o zg 1 0 := bk1.o
theorem k1m : z_f zg 1 0 8 0 := bk1.m
theorem k1f0 : z_fr zg 1 0 0 2 := bk1.fr0
theorem k1z0 : zf zg 1 0 = 2 := bk1.zf0
theorem k1f1 : z_fr zg 1 0 1 5 := bk1.fr1
theorem k1z1 : zf zg 1 1 = 5 := bk1.zf1
theorem k1f2 : z_fr zg 1 0 2 8 := bk1.fr2
theorem k1z2 : zf zg 1 2 = 8 := bk1.zf2
theorem k1f3 : z_fr zg 1 0 3 11 := bk1.fr3
theorem k1z3 : zf zg 1 3 = 11 := bk1.zf3
theorem k1f4 : z_fr zg 1 0 4 14 := bk1.fr4
theorem k1z4 : zf zg 1 4 = 14 := bk1.zf4
theorem k1f5 : z_fr zg 1 0 5 17 := bk1.fr5
theorem k1z5 : zf zg 1 5 = 17 := bk1.zf5
theorem k1f6 : z_fr zg 1 0 6 20 := bk1.fr6
theorem k1z6 : zf zg 1 6 = 20 := bk1.zf6
theorem k1f7 : z_fr zg 1 0 7 23 := bk1.fr7
theorem k1z7 : zf zg 1 7 = 23 := bk1.zf7
theorem k1r0 : z_o zg 2 3 := bk1.r0.o
theorem k1r1 : z_o zg 5 3 := bk1.r1.o
theorem k1r2 : z_o zg 8 3 := bk1.r2.o
theorem k1r3 : z_o zg 11 3 := bk1.r3.o
theorem k1r4 : z_o zg 14 3 := bk1.r4.o
theorem k1r5 : z_o zg 17 3 := bk1.r5.o
theorem k1r6 : z_o zg 20 3 := bk1.r6.o
theorem k1w : z_o zg 23 4 := bk1.wo
theorem k109 : z_o zg 109 1 := o_of rfl (by decide)
theorem k109a : z_fr zg 109 1 0 110 := fr_of rfl (by decide) rfl
theorem k109b : zf zg 109 0 = 110 := rfl
theorem k109c : z_f zg 109 1 1 0 := f_of rfl (by decide) rfl
theorem k109d : z_f zg 109 1 2 0 := f_of rfl (by decide) rfl
theorem k109e : z_f zg 109 1 3 0 := f_of rfl (by decide) rfl
theorem k109f : z_f zg 109 1 4 0 := f_of rfl (by decide) rfl
theorem k109g : z_f zg 109 1 5 0 := f_of rfl (by decide) rfl
theorem p110 : zRow 110 111 150 := ⟨rfl, by decide, rfl, by decide, by decide⟩
theorem p112 : zRow 112 113 3 := ⟨rfl, by decide, rfl, by decide, by decide⟩
theorem p114 : zRow 114 115 61 := ⟨rfl, by decide, rfl, by decide, by decide⟩
theorem p116 : zRow 116 117 61 := ⟨rfl, by decide, rfl, by decide, by decide⟩
theorem p118 : zRow 118 119 100 := ⟨rfl, by decide, rfl, by decide, by decide⟩
theorem p120 : zRow 120 121 36 := ⟨rfl, by decide, rfl, by decide, by decide⟩
theorem p122 : zRow 122 123 64 := ⟨rfl, by decide, rfl, by decide, by decide⟩
theorem kr110 : z_o zg 110 2 := p110.o
theorem kr112 : z_o zg 112 2 := p112.o
theorem kr114 : z_o zg 114 2 := p114.o
theorem kr116 : z_o zg 116 2 := p116.o
theorem kr118 : z_o zg 118 2 := p118.o
theorem kr120 : z_o zg 120 2 := p120.o
theorem kr122 : z_o zg 122 2 := p122.o
-- the state
noncomputable def cIf {α : Type} (p : Prop) (x y : α) : α := @ite α p (Classical.propDecidable p) x y
theorem cIf_t {α : Type} {p : Prop} {x y : α} (h : p) : cIf p x y = x := by unfold cIf; exact if_pos h
theorem cIf_f {α : Type} {p : Prop} {x y : α} (h : ¬ p) : cIf p x y = y := by unfold cIf; exact if_neg h
def sU (s : Mem) (i : Nat) (f : Int → Int) : Mem := fun o => if o = i then f else s o
theorem sU_s {s : Mem} {i : Nat} {f : Int → Int} : sU s i f i = f := by simp [sU]
theorem sU_n {s : Mem} {i j : Nat} {f : Int → Int} (h : j ≠ i) : sU s i f j = s j := by simp [sU, h]
theorem sU_i {s : Mem} {i : Nat} : sU s i (s i) = s := by
  funext o
  unfold sU
  split
  · rename_i h; rw [h]
  · rfl
def WS (n : Int) (s : Mem) : Prop := (WA 9999 (s 0) ∧ WA 9999 (s 1) ∧ WA 9999 (s 2)) ∧ ((0 ≤ s 4 0 ∧ s 4 0 ≤ 150) ∧ ∀ j, 0 ≤ j → j < s 4 0 → 0 ≤ s 3 j ∧ s 3 j ≤ 127) ∧ (z01 (s 4 1) ∧ z01 (s 4 2)) ∧ ((0 ≤ s 4 3 ∧ s 4 3 ≤ n) ∧ (0 ≤ s 4 4 ∧ s 4 4 ≤ n) ∧ (0 ≤ s 4 5 ∧ s 4 5 ≤ n))
/-- the class holds s -/
def CS (D s : Mem) : Prop := (BK 9999 D 1 (s 0) ∧ (∃ x, BK 20000 D 28 x) ∧ BK 9999 D 55 (s 1) ∧ BK 9999 D 82 (s 2)) ∧ (D 109 1 = s 4 0 ∧ ∀ j, 0 ≤ j → j < s 4 0 → D 111 j = s 3 j) ∧ (D 0 4 = s 4 1 ∧ D 0 5 = s 4 2) ∧ (D 113 0 = s 4 3 ∧ D 113 1 = s 4 4 ∧ D 113 2 = s 4 5) ∧ (D 0 8 = s 4 6 ∧ D 0 9 = s 4 7)
theorem CS.now {D D' s : Mem} {a : Int → Int} (h : CS D s) (hf : Fr 1 28 D D') (hB : BK 9999 D' 1 a) : CS D' (sU s 0 a) := by
  obtain ⟨⟨h1, ⟨x, h2⟩, h3, h4⟩, ⟨h5, h6⟩, ⟨h7, h8⟩, ⟨h9, h10, h11⟩, h12, h13⟩ := h
  have e : ∀ o, o < 1 ∨ 28 ≤ o → D' o = D o := hf
  refine ⟨⟨by rw [sU_s]; exact hB, ⟨x, h2.out fun o _ _ => e o (by omega)⟩, by rw [sU_n (by decide)]; exact h3.out fun o _ _ => e o (by omega), by rw [sU_n (by decide)]; exact h4.out fun o _ _ => e o (by omega)⟩, ?_⟩
  rw [sU_n (by decide), sU_n (by decide), e 109 (by omega), e 111 (by omega), e 0 (by omega), e 113 (by omega)]
  exact ⟨⟨h5, h6⟩, ⟨h7, h8⟩, ⟨h9, h10, h11⟩, h12, h13⟩
theorem CS.same {D D' s : Mem} (h : CS D s) (hf : Fr 1 28 D D') (hB : BK 9999 D' 1 (s 0)) : CS D' s := by
  have := h.now hf hB
  rw [sU_i] at this
  exact this
/-- the rows that hold for one call -/
theorem CS.scr {D D' s : Mem} (h : CS D s) (hf : Fr 114 124 D D') : CS D' s := by
  obtain ⟨⟨h1, ⟨x, h2⟩, h3, h4⟩, ⟨h5, h6⟩, ⟨h7, h8⟩, ⟨h9, h10, h11⟩, h12, h13⟩ := h
  have e : ∀ o, o < 114 → D' o = D o := fun o q => hf o (Or.inl q)
  refine ⟨⟨h1.out fun o _ _ => e o (by omega), ⟨x, h2.out fun o _ _ => e o (by omega)⟩, h3.out fun o _ _ => e o (by omega), h4.out fun o _ _ => e o (by omega)⟩, ?_⟩
  rw [e 109 (by omega), e 111 (by omega), e 0 (by omega), e 113 (by omega)]
  exact ⟨⟨h5, h6⟩, ⟨h7, h8⟩, ⟨h9, h10, h11⟩, h12, h13⟩
def sRf (s : Mem) (k : Int) : Mem := sU s 4 (zA (s 4) k (s 4 k + 1))
theorem CS.rf {D s : Mem} {k : Int} (h : CS D s) (hk : k = 0 ∨ k = 1 ∨ k = 2) : CS (zU D 113 k (s 4 (3 + k) + 1)) (sRf s (3 + k)) := by
  obtain ⟨⟨h1, ⟨x, h2⟩, h3, h4⟩, ⟨h5, h6⟩, ⟨h7, h8⟩, ⟨h9, h10, h11⟩, h12, h13⟩ := h
  have e : ∀ o, o ≠ 113 → zU D 113 k (s 4 (3 + k) + 1) o = D o := fun o q => zU_ne q
  have n : ∀ j, j ≠ 3 + k → zA (s 4) (3 + k) (s 4 (3 + k) + 1) j = s 4 j := fun j q => zA_n q
  unfold sRf
  refine ⟨⟨by rw [sU_n (by decide)]; exact h1.out fun o _ _ => e o (by omega), ⟨x, h2.out fun o _ _ => e o (by omega)⟩, by rw [sU_n (by decide)]; exact h3.out fun o _ _ => e o (by omega), by rw [sU_n (by decide)]; exact h4.out fun o _ _ => e o (by omega)⟩, ?_⟩
  rw [sU_s, sU_n (by decide), e 109 (by omega), e 111 (by omega), e 0 (by omega), n 0 (by omega), n 1 (by omega), n 2 (by omega), n 6 (by omega), n 7 (by omega)]
  refine ⟨⟨h5, h6⟩, ⟨h7, h8⟩, ?_, h12, h13⟩
  rcases hk with q | q | q <;> subst q
  · exact ⟨by rw [zU_s, show (3 : Int) + 0 = 3 from rfl, zA_s], by rw [zU_k (by decide), zA_n (by decide)]; exact h10, by rw [zU_k (by decide), zA_n (by decide)]; exact h11⟩
  · exact ⟨by rw [zU_k (by decide), zA_n (by decide)]; exact h9, by rw [zU_s, show (3 : Int) + 1 = 4 from rfl, zA_s], by rw [zU_k (by decide), zA_n (by decide)]; exact h11⟩
  · exact ⟨by rw [zU_k (by decide), zA_n (by decide)]; exact h9, by rw [zU_k (by decide), zA_n (by decide)]; exact h10, by rw [zU_s, show (3 : Int) + 2 = 5 from rfl, zA_s]⟩
theorem WS.rf {n : Int} {s : Mem} {k : Int} (h : WS n s) (hk : k = 3 ∨ k = 4 ∨ k = 5) : WS (n + 1) (sRf s k) := by
  obtain ⟨h1, h2, h3, h4, h5, h6⟩ := h
  unfold sRf WS
  rw [sU_s, sU_n (by decide), sU_n (by decide), sU_n (by decide), sU_n (by decide), zA_n (j := 0) (by omega), zA_n (j := 1) (by omega), zA_n (j := 2) (by omega)]
  refine ⟨h1, h2, h3, ?_⟩
  rcases hk with q | q | q <;> subst q
  · rw [zA_s, zA_n (by decide), zA_n (by decide)]; omega
  · rw [zA_s, zA_n (by decide), zA_n (by decide)]; omega
  · rw [zA_s, zA_n (by decide), zA_n (by decide)]; omega
theorem WS.up {n : Int} {s : Mem} (h : WS n s) : WS (n + 1) s := by
  obtain ⟨h1, h2, h3, h4, h5, h6⟩ := h
  exact ⟨h1, h2, h3, by omega, by omega, by omega⟩
theorem WS.now {n : Int} {s : Mem} {a : Int → Int} (h : WS n s) (ha : WA 9999 a) : WS n (sU s 0 a) := by
  obtain ⟨⟨h1, h2, h3⟩, h4, h5, h6⟩ := h
  unfold WS
  rw [sU_s, sU_n (by decide), sU_n (by decide), sU_n (by decide), sU_n (by decide)]
  exact ⟨⟨ha, h2, h3⟩, h4, h5, h6⟩
abbrev cOK (M : MI) (as : List AV) (s : Mem) (r : Int × Mem) : Prop := ∀ ⦃D : Mem⦄ ⦃P : Int → Mem → Prop⦄, CS D s → (∀ D', Fr 0 124 D D' → CS D' r.2 → P r.1 D') → zC M as D P
theorem c_badAs {n : Int} {D s : Mem} {x : Int} {P : Int → Mem → Prop} (hC : CS D s) (hW : WS n s) (hn : n < 1000000) (hP : ∀ D', Fr 0 124 D D' → CS D' (sRf s 3) → P x D') : zC miX5_badAs [zr 0, zi x] D P := by
  have e := hC.2.2.2.1
  have w := hW.2.2.2
  refine e_X5_badAs ?_
  simp only [tX5_badAs_0, w_ic, w_lc, w_lds, w_ild, w_lld, w_ald, w_ist, w_lst, w_ast, w_iinc, w_iadd, w_isub, w_imul, w_idiv, w_irem, w_iand, w_ior, w_ixor, w_ishl, w_ishr, w_iushr, w_ineg, w_ladd, w_lsub, w_lmul, w_ldiv, w_lrem, w_lcmp, w_i2l, w_l2i, w_dup, w_pop, w_dup2, w_ieq, w_zeq, w_ine, w_zne, w_ilt, w_zlt, w_ige, w_zge, w_igt, w_zgt, w_ile, w_zle, w_cut, w_tsw, zsw, w_iret, w_zret, w_lret, w_vret, w_nret, w_getI, w_getJ, w_getR, w_putI, w_putZ, w_putJ, w_iald, w_zald, w_iast, w_zast, w_alen, w_sI, w_sJ, w_sV, w_vI, w_vJ, w_vV, w_tI, w_mmax, w_mmin, w_mabs, w_lmax, w_acopy, gL, sL, kl_i, kl_l, kl_r, kl_s, kl_m, qI_i, qJ_l, qA_r, qA_s, pI_i, pJ_l, pA_r, pS_s, pM_m, pV_v, c1_i, c1_r, c1_s, c1_m, cS_0, cS_i, cS_l, cS_r, cS_s, cS_m, pN, z_rc_r, zE1, zE2, zE3, true_and, and_true, Nat.zero_add, Nat.reduceAdd, Nat.reduceLeDiff, true_or, or_true, q0, qp4, qp5, qp8, qp9, qf0, qz0, qf1, qz1, qf2, qz2, qf3, qz3, qf6, qz6, qf7, qz7, qf10, qz10, qf11, qz11, qf12, qz12, qf13, qz13, qf14, qz14, k1o, k1m, k1f0, k1z0, k1f1, k1z1, k1f2, k1z2, k1f3, k1z3, k1f4, k1z4, k1f5, k1z5, k1f6, k1z6, k1f7, k1z7, k1r0, k1r1, k1r2, k1r3, k1r4, k1r5, k1r6, k1w, k109, k109a, k109b, k109c, k109d, k109e, k109f, k109g, kr110, kr112, kr114, kr116, kr118, kr120, kr122]
  refine c_Row_get p112 (by decide) (by decide) ?_
  rw [e.1]
  refine ⟨⟨by omega, by omega⟩, ?_⟩
  refine c_Row_set p112 (by decide) (by decide) ?_
  have := hC.rf (k := 0) (by omega)
  exact hP _ (Fr.up (by omega) (by omega)) this
theorem c_bad {n : Int} {D s : Mem} {P : Int → Mem → Prop} (hC : CS D s) (hW : WS n s) (hn : n < 1000000) (hP : ∀ D', Fr 0 124 D D' → CS D' (sRf s 3) → P (-2) D') : zC miX5_bad [zr 0] D P := by
  refine e_X5_bad ?_
  simp only [tX5_bad_0, w_ic, w_lc, w_lds, w_ild, w_lld, w_ald, w_ist, w_lst, w_ast, w_iinc, w_iadd, w_isub, w_imul, w_idiv, w_irem, w_iand, w_ior, w_ixor, w_ishl, w_ishr, w_iushr, w_ineg, w_ladd, w_lsub, w_lmul, w_ldiv, w_lrem, w_lcmp, w_i2l, w_l2i, w_dup, w_pop, w_dup2, w_ieq, w_zeq, w_ine, w_zne, w_ilt, w_zlt, w_ige, w_zge, w_igt, w_zgt, w_ile, w_zle, w_cut, w_tsw, zsw, w_iret, w_zret, w_lret, w_vret, w_nret, w_getI, w_getJ, w_getR, w_putI, w_putZ, w_putJ, w_iald, w_zald, w_iast, w_zast, w_alen, w_sI, w_sJ, w_sV, w_vI, w_vJ, w_vV, w_tI, w_mmax, w_mmin, w_mabs, w_lmax, w_acopy, gL, sL, kl_i, kl_l, kl_r, kl_s, kl_m, qI_i, qJ_l, qA_r, qA_s, pI_i, pJ_l, pA_r, pS_s, pM_m, pV_v, c1_i, c1_r, c1_s, c1_m, cS_0, cS_i, cS_l, cS_r, cS_s, cS_m, pN, z_rc_r, zE1, zE2, zE3, true_and, and_true, Nat.zero_add, Nat.reduceAdd, Nat.reduceLeDiff, true_or, or_true, q0, qp4, qp5, qp8, qp9, qf0, qz0, qf1, qz1, qf2, qz2, qf3, qz3, qf6, qz6, qf7, qz7, qf10, qz10, qf11, qz11, qf12, qz12, qf13, qz13, qf14, qz14, k1o, k1m, k1f0, k1z0, k1f1, k1z1, k1f2, k1z2, k1f3, k1z3, k1f4, k1z4, k1f5, k1z5, k1f6, k1z6, k1f7, k1z7, k1r0, k1r1, k1r2, k1r3, k1r4, k1r5, k1r6, k1w, k109, k109a, k109b, k109c, k109d, k109e, k109f, k109g, kr110, kr112, kr114, kr116, kr118, kr120, kr122]
  exact c_badAs hC hW hn hP
theorem c_no {n : Int} {D s : Mem} {P : Int → Mem → Prop} (hC : CS D s) (hW : WS n s) (hn : n < 1000000) (hP : ∀ D', Fr 0 124 D D' → CS D' (sRf s 4) → P (-3) D') : zC miX5_no [zr 0] D P := by
  have e := hC.2.2.2.1
  have w := hW.2.2.2
  refine e_X5_no ?_
  simp only [tX5_no_0, w_ic, w_lc, w_lds, w_ild, w_lld, w_ald, w_ist, w_lst, w_ast, w_iinc, w_iadd, w_isub, w_imul, w_idiv, w_irem, w_iand, w_ior, w_ixor, w_ishl, w_ishr, w_iushr, w_ineg, w_ladd, w_lsub, w_lmul, w_ldiv, w_lrem, w_lcmp, w_i2l, w_l2i, w_dup, w_pop, w_dup2, w_ieq, w_zeq, w_ine, w_zne, w_ilt, w_zlt, w_ige, w_zge, w_igt, w_zgt, w_ile, w_zle, w_cut, w_tsw, zsw, w_iret, w_zret, w_lret, w_vret, w_nret, w_getI, w_getJ, w_getR, w_putI, w_putZ, w_putJ, w_iald, w_zald, w_iast, w_zast, w_alen, w_sI, w_sJ, w_sV, w_vI, w_vJ, w_vV, w_tI, w_mmax, w_mmin, w_mabs, w_lmax, w_acopy, gL, sL, kl_i, kl_l, kl_r, kl_s, kl_m, qI_i, qJ_l, qA_r, qA_s, pI_i, pJ_l, pA_r, pS_s, pM_m, pV_v, c1_i, c1_r, c1_s, c1_m, cS_0, cS_i, cS_l, cS_r, cS_s, cS_m, pN, z_rc_r, zE1, zE2, zE3, true_and, and_true, Nat.zero_add, Nat.reduceAdd, Nat.reduceLeDiff, true_or, or_true, q0, qp4, qp5, qp8, qp9, qf0, qz0, qf1, qz1, qf2, qz2, qf3, qz3, qf6, qz6, qf7, qz7, qf10, qz10, qf11, qz11, qf12, qz12, qf13, qz13, qf14, qz14, k1o, k1m, k1f0, k1z0, k1f1, k1z1, k1f2, k1z2, k1f3, k1z3, k1f4, k1z4, k1f5, k1z5, k1f6, k1z6, k1f7, k1z7, k1r0, k1r1, k1r2, k1r3, k1r4, k1r5, k1r6, k1w, k109, k109a, k109b, k109c, k109d, k109e, k109f, k109g, kr110, kr112, kr114, kr116, kr118, kr120, kr122]
  refine c_Row_get p112 (by decide) (by decide) ?_
  rw [e.2.1]
  refine ⟨⟨by omega, by omega⟩, ?_⟩
  refine c_Row_set p112 (by decide) (by decide) ?_
  exact hP _ (Fr.up (by omega) (by omega)) (hC.rf (k := 1) (by omega))
theorem c_full {n : Int} {D s : Mem} {P : Int → Mem → Prop} (hC : CS D s) (hW : WS n s) (hn : n < 1000000) (hP : ∀ D', Fr 0 124 D D' → CS D' (sRf s 5) → P (-4) D') : zC miX5_full [zr 0] D P := by
  have e := hC.2.2.2.1
  have w := hW.2.2.2
  refine e_X5_full ?_
  simp only [tX5_full_0, w_ic, w_lc, w_lds, w_ild, w_lld, w_ald, w_ist, w_lst, w_ast, w_iinc, w_iadd, w_isub, w_imul, w_idiv, w_irem, w_iand, w_ior, w_ixor, w_ishl, w_ishr, w_iushr, w_ineg, w_ladd, w_lsub, w_lmul, w_ldiv, w_lrem, w_lcmp, w_i2l, w_l2i, w_dup, w_pop, w_dup2, w_ieq, w_zeq, w_ine, w_zne, w_ilt, w_zlt, w_ige, w_zge, w_igt, w_zgt, w_ile, w_zle, w_cut, w_tsw, zsw, w_iret, w_zret, w_lret, w_vret, w_nret, w_getI, w_getJ, w_getR, w_putI, w_putZ, w_putJ, w_iald, w_zald, w_iast, w_zast, w_alen, w_sI, w_sJ, w_sV, w_vI, w_vJ, w_vV, w_tI, w_mmax, w_mmin, w_mabs, w_lmax, w_acopy, gL, sL, kl_i, kl_l, kl_r, kl_s, kl_m, qI_i, qJ_l, qA_r, qA_s, pI_i, pJ_l, pA_r, pS_s, pM_m, pV_v, c1_i, c1_r, c1_s, c1_m, cS_0, cS_i, cS_l, cS_r, cS_s, cS_m, pN, z_rc_r, zE1, zE2, zE3, true_and, and_true, Nat.zero_add, Nat.reduceAdd, Nat.reduceLeDiff, true_or, or_true, q0, qp4, qp5, qp8, qp9, qf0, qz0, qf1, qz1, qf2, qz2, qf3, qz3, qf6, qz6, qf7, qz7, qf10, qz10, qf11, qz11, qf12, qz12, qf13, qz13, qf14, qz14, k1o, k1m, k1f0, k1z0, k1f1, k1z1, k1f2, k1z2, k1f3, k1z3, k1f4, k1z4, k1f5, k1z5, k1f6, k1z6, k1f7, k1z7, k1r0, k1r1, k1r2, k1r3, k1r4, k1r5, k1r6, k1w, k109, k109a, k109b, k109c, k109d, k109e, k109f, k109g, kr110, kr112, kr114, kr116, kr118, kr120, kr122]
  refine c_Row_get p112 (by decide) (by decide) ?_
  rw [e.2.2]
  refine ⟨⟨by omega, by omega⟩, ?_⟩
  refine c_Row_set p112 (by decide) (by decide) ?_
  exact hP _ (Fr.up (by omega) (by omega)) (hC.rf (k := 2) (by omega))
-- the calls: the answer and the state behind it
noncomputable def r_back (s : Mem) : Int × Mem := (s 0 1, sU s 0 (fun _ => 0))
theorem v_back {s : Mem} : cOK miX5_back [zr 0] s (r_back s) := by
  intro D P hC hP
  refine e_X5_back ?_
  simp only [tX5_back_0, w_ic, w_lc, w_lds, w_ild, w_lld, w_ald, w_ist, w_lst, w_ast, w_iinc, w_iadd, w_isub, w_imul, w_idiv, w_irem, w_iand, w_ior, w_ixor, w_ishl, w_ishr, w_iushr, w_ineg, w_ladd, w_lsub, w_lmul, w_ldiv, w_lrem, w_lcmp, w_i2l, w_l2i, w_dup, w_pop, w_dup2, w_ieq, w_zeq, w_ine, w_zne, w_ilt, w_zlt, w_ige, w_zge, w_igt, w_zgt, w_ile, w_zle, w_cut, w_tsw, zsw, w_iret, w_zret, w_lret, w_vret, w_nret, w_getI, w_getJ, w_getR, w_putI, w_putZ, w_putJ, w_iald, w_zald, w_iast, w_zast, w_alen, w_sI, w_sJ, w_sV, w_vI, w_vJ, w_vV, w_tI, w_mmax, w_mmin, w_mabs, w_lmax, w_acopy, gL, sL, kl_i, kl_l, kl_r, kl_s, kl_m, qI_i, qJ_l, qA_r, qA_s, pI_i, pJ_l, pA_r, pS_s, pM_m, pV_v, c1_i, c1_r, c1_s, c1_m, cS_0, cS_i, cS_l, cS_r, cS_s, cS_m, pN, z_rc_r, zE1, zE2, zE3, true_and, and_true, Nat.zero_add, Nat.reduceAdd, Nat.reduceLeDiff, true_or, or_true, q0, qp4, qp5, qp8, qp9, qf0, qz0, qf1, qz1, qf2, qz2, qf3, qz3, qf6, qz6, qf7, qz7, qf10, qz10, qf11, qz11, qf12, qz12, qf13, qz13, qf14, qz14, k1o, k1m, k1f0, k1z0, k1f1, k1z1, k1f2, k1z2, k1f3, k1z3, k1f4, k1z4, k1f5, k1z5, k1f6, k1z6, k1f7, k1z7, k1r0, k1r1, k1r2, k1r3, k1r4, k1r5, k1r6, k1w, k109, k109a, k109b, k109c, k109d, k109e, k109f, k109g, kr110, kr112, kr114, kr116, kr118, kr120, kr122]
  refine c_gsize bk1 hC.1.1 ?_
  exact c_reset bk1 hC.1.1 (by decide) fun D' d1 d2 => hP D' (d1.wide (by omega) (by omega)) (hC.now (d1.wide (by omega) (by omega)) d2)
noncomputable def r_ladder (s : Mem) (c : Int) : Int × Mem := cIf ((0 ≤ c ∧ c ≤ 15) ∧ ∀ k, 0 ≤ k → k < s 0 0 → s 0 (4 + k) ≠ c) (cIf (s 0 0 = 6) (-4, sRf s 5) (s 0 0, sU s 0 (sAddL (zA (s 0) 120 0) c))) (-2, sRf s 3)
theorem v_ladder {n c : Int} {s : Mem} (hW : WS n s) (hn : n < 1000000) : cOK miX5_ladder [zr 0, zi c] s (r_ladder s c) := by
  intro D P hC hP
  have h := hC.1.1
  have n0 := h.2.2.1.n0
  have bad : ¬ ((0 ≤ c ∧ c ≤ 15) ∧ ∀ k, 0 ≤ k → k < s 0 0 → s 0 (4 + k) ≠ c) → zC miX5_bad [zr 0] D P := by
    intro q
    unfold r_ladder at hP
    rw [cIf_f q] at hP
    exact c_bad hC hW hn hP
  refine e_X5_ladder ?_
  simp only [tX5_ladder_0, w_ic, w_lc, w_lds, w_ild, w_lld, w_ald, w_ist, w_lst, w_ast, w_iinc, w_iadd, w_isub, w_imul, w_idiv, w_irem, w_iand, w_ior, w_ixor, w_ishl, w_ishr, w_iushr, w_ineg, w_ladd, w_lsub, w_lmul, w_ldiv, w_lrem, w_lcmp, w_i2l, w_l2i, w_dup, w_pop, w_dup2, w_ieq, w_zeq, w_ine, w_zne, w_ilt, w_zlt, w_ige, w_zge, w_igt, w_zgt, w_ile, w_zle, w_cut, w_tsw, zsw, w_iret, w_zret, w_lret, w_vret, w_nret, w_getI, w_getJ, w_getR, w_putI, w_putZ, w_putJ, w_iald, w_zald, w_iast, w_zast, w_alen, w_sI, w_sJ, w_sV, w_vI, w_vJ, w_vV, w_tI, w_mmax, w_mmin, w_mabs, w_lmax, w_acopy, gL, sL, kl_i, kl_l, kl_r, kl_s, kl_m, qI_i, qJ_l, qA_r, qA_s, pI_i, pJ_l, pA_r, pS_s, pM_m, pV_v, c1_i, c1_r, c1_s, c1_m, cS_0, cS_i, cS_l, cS_r, cS_s, cS_m, pN, z_rc_r, zE1, zE2, zE3, true_and, and_true, Nat.zero_add, Nat.reduceAdd, Nat.reduceLeDiff, true_or, or_true, q0, qp4, qp5, qp8, qp9, qf0, qz0, qf1, qz1, qf2, qz2, qf3, qz3, qf6, qz6, qf7, qz7, qf10, qz10, qf11, qz11, qf12, qz12, qf13, qz13, qf14, qz14, k1o, k1m, k1f0, k1z0, k1f1, k1z1, k1f2, k1z2, k1f3, k1z3, k1f4, k1z4, k1f5, k1z5, k1f6, k1z6, k1f7, k1z7, k1r0, k1r1, k1r2, k1r3, k1r4, k1r5, k1r6, k1w, k109, k109a, k109b, k109c, k109d, k109e, k109f, k109g, kr110, kr112, kr114, kr116, kr118, kr120, kr122]
  refine c_within (fun c0 c1 => ⟨fun w => absurd w (by decide), fun _ => ?_⟩) (fun q => ⟨fun _ => bad (by omega), fun w => absurd rfl w⟩)
  refine c_hasLadder bk1 h (fun q => ⟨fun w => absurd w (by decide), fun _ => bad fun w => ?_⟩) (fun q => ⟨fun _ => ?_, fun w => absurd rfl w⟩)
  · obtain ⟨k, k0, k1, k2⟩ := q
    exact w.2 k k0 k1 k2
  · unfold r_ladder at hP
    rw [cIf_t ⟨⟨c0, c1⟩, q⟩] at hP
    refine c_Rows_isFull bk1.r0 (fun q2 => ⟨fun w => absurd w (by decide), fun _ => ?_⟩) (fun q2 => ⟨fun _ => ?_, fun w => absurd rfl w⟩)
    · rw [h.1.1.1, h.2.1.1.1] at q2
      rw [cIf_t (show s 0 0 = 6 by omega)] at hP
      exact c_full hC hW hn hP
    · rw [h.1.1.1, h.2.1.1.1] at q2
      have hl : s 0 0 < 6 := by omega
      rw [cIf_f (by omega)] at hP
      refine c_noPast bk1 h fun D1 d1 d2 => ?_
      refine c_addLadder bk1 d2 (by rw [zA_n (by decide)]; exact hl) (by omega) zA_s fun D2 d3 d4 => ?_
      rw [zA_n (by decide)]
      exact hP D2 ((d1.trans d3).wide (by omega) (by omega)) (hC.now ((d1.trans d3).wide (by omega) (by omega)) d4)
