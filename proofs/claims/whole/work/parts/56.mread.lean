/-! ===== 56: the model reads: bytes, blanks, words, numbers, ends ===== -/
/-- only where the reading stands changed -/
def yK (D D' : Mem) : Prop := (∀ o, o ≠ 124 → D' o = D o) ∧ ∀ j : Int, j < 7 → D' 124 j = D 124 j
theorem yK.rfl {D : Mem} : yK D D := ⟨fun _ _ => Eq.refl _, fun _ _ => Eq.refl _⟩
theorem yK.trans {D D1 D2 : Mem} (h : yK D D1) (h2 : yK D1 D2) : yK D D2 := ⟨fun o p => (h2.1 o p).trans (h.1 o p), fun j p => (h2.2 j p).trans (h.2 j p)⟩
theorem yK.up {D : Mem} {k x : Int} (h : 7 ≤ k) : yK D (zU D 124 k x) := ⟨fun o p => zU_ne p, fun j p => zU_k (by omega)⟩
theorem yK.f {D D' : Mem} (h : yK D D') : yF D D' := ⟨⟨fun o p => h.1 o (by omega), h.2⟩, fun j _ => by rw [h.1 125 (by decide)]⟩
theorem yK.r {D D' : Mem} {r : Int} {a : Int → Int} (h : yK D D') (hr : yR D r a) : yR D' r a := by
  unfold yR
  rw [h.1 125 (by decide)]
  exact hr
/-- the text as it stands -/
def yTx (D s : Mem) : Prop := ((0 ≤ s 4 0 ∧ s 4 0 ≤ 150) ∧ ∀ j, 0 ≤ j → j < s 4 0 → 0 ≤ s 3 j ∧ s 3 j ≤ 127) ∧ D 124 3 = s 4 0 ∧ ∀ j, 0 ≤ j → j < s 4 0 → D 127 j = s 3 j
theorem yTx.f {D D' s : Mem} (h : yTx D s) (f : yF D D') : yTx D' s := ⟨h.1, by rw [f.1.2 3 (by decide)]; exact h.2.1, by rw [f.1.1 127 (by omega)]; exact h.2.2⟩
theorem yTx.k {D D' s : Mem} (h : yTx D s) (f : yK D D') : yTx D' s := h.f f.f
theorem m_byteAt {k : Int} {D s : Mem} {P : Int → Mem → Prop} (hT : yTx D s) (k0 : 0 ≤ k) (h1 : k < s 4 0 → P (s 3 k) D) (h0 : s 4 0 ≤ k → P (-1) D) : zC miX6_byteAt [zr 124, zi k] D P := by
  have hl := hT.1.1
  refine e_X6_byteAt ?_
  simp only [tX6_byteAt_0, w_ic, w_lc, w_lds, w_ild, w_lld, w_ald, w_ist, w_lst, w_ast, w_iinc, w_iadd, w_isub, w_imul, w_idiv, w_irem, w_iand, w_ior, w_ixor, w_ishl, w_ishr, w_iushr, w_ineg, w_ladd, w_lsub, w_lmul, w_ldiv, w_lrem, w_lcmp, w_i2l, w_l2i, w_dup, w_pop, w_dup2, w_ieq, w_zeq, w_ine, w_zne, w_ilt, w_zlt, w_ige, w_zge, w_igt, w_zgt, w_ile, w_zle, w_cut, w_tsw, zsw, w_iret, w_zret, w_lret, w_vret, w_nret, w_getI, w_getJ, w_getR, w_putI, w_putZ, w_putJ, w_iald, w_zald, w_iast, w_zast, w_alen, w_sI, w_sJ, w_sV, w_vI, w_vJ, w_vV, w_tI, w_mmax, w_mmin, w_mabs, w_lmax, w_acopy, gL, sL, kl_i, kl_l, kl_r, kl_s, kl_m, qI_i, qJ_l, qA_r, qA_s, pI_i, pJ_l, pA_r, pS_s, pM_m, pV_v, c1_i, c1_r, c1_s, c1_m, cS_0, cS_i, cS_l, cS_r, cS_s, cS_m, pN, z_rc_r, zE1, zE2, zE3, true_and, and_true, Nat.zero_add, Nat.reduceAdd, Nat.reduceLeDiff, true_or, or_true, Int.reduceLE, Int.reduceLT, zcmp_l, zcmp_g, zcmp_e, zcmp_le, mo, mf0, mz0, mf1, mz1, mf2, mz2, mf6, mz6, mf10, mz10, mf11, mz11, mf12, mz12, mf13, mz13, mf14, mz14, mf16, mz16, mf17, mz17, mf18, mz18, mf19, mz19, mi3, mi7, mi8, mi9, mi15, mi4, mi5, mi20, ma125, mn125, ma126, mn126, ma127, mn127, ma128, mn128, ma129, mn129, ma130, mn130, ma131, mn131, ma132, mn132, ma133, mn133, ma134, mn134, ma135, mn135, ma136, mn136, ma137, mn137]
  rw [hT.2.1]
  refine ⟨fun q => h0 q, fun q => ⟨k0, by omega, ?_⟩⟩
  rw [hT.2.2 k k0 (by omega)]
  exact h1 (by omega)
theorem tSt_b {s : Mem} {p : Int} (hl : 0 ≤ s 4 0 ∧ s 4 0 ≤ 150) (p0 : 0 ≤ p) (p1 : p ≤ s 4 0) : p ≤ tSt s p ∧ tSt s p ≤ s 4 0 ∧ ¬ (tSt s p < s 4 0 ∧ s 3 (tSt s p) = 32) := by
  unfold tSt zRn
  dsimp only
  rcases zFst_spec (p := fun k => ¬ (p + k < s 4 0 ∧ s 3 (p + k) = 32)) 152 with ⟨h, h2⟩ | ⟨g0, g1, g2, g3⟩
  · exact absurd (fun w : p + (s 4 0 - p) < s 4 0 ∧ s 3 (p + (s 4 0 - p)) = 32 => by omega) (h2 (s 4 0 - p) (by omega) (by omega))
  · refine ⟨by omega, ?_, g2⟩
    apply Classical.byContradiction
    intro hn
    exact g3 (s 4 0 - p) (by omega) (by omega) (fun w => by omega)
theorem tSt_i {s : Mem} {p : Int} (hl : 0 ≤ s 4 0 ∧ s 4 0 ≤ 150) (p0 : 0 ≤ p) (p1 : p ≤ s 4 0) : tSt s (tSt s p) = tSt s p := by
  have b := tSt_b hl p0 p1
  exact zRn_of (Int.le_refl _) (by omega) b.2.2 (fun k k0 k1 => by omega)
theorem tTo_i {s : Mem} {p : Int} (hl : 0 ≤ s 4 0 ∧ s 4 0 ≤ 150) (p0 : 0 ≤ p) (p1 : p ≤ s 4 0) : tTo s (tSt s p) = tTo s p := by
  unfold tTo
  rw [tSt_i hl p0 p1]
theorem tEn_i {s : Mem} {p : Int} (hl : 0 ≤ s 4 0 ∧ s 4 0 ≤ 150) (p0 : 0 ≤ p) (p1 : p ≤ s 4 0) : tEn s (tSt s p) = tEn s p := by
  unfold tEn
  rw [tSt_i hl p0 p1, tTo_i hl p0 p1]
/-- the end of a run of one sort -/
theorem tEn_run {s : Mem} {p c : Int} (hc : c = 1 ∨ c = 2) (hl : 0 ≤ s 4 0 ∧ s 4 0 ≤ 150) (p0 : 0 ≤ p) (p1 : p ≤ s 4 0) {q : Int} (q0 : tSt s p ≤ q) (q1 : q ≤ s 4 0) (hn : ¬ (q < s 4 0 ∧ sTo (s 3 q) = c)) (hk : ∀ k, tSt s p ≤ k → k < q → sTo (s 3 k) = c) : (tTo s p = c ∧ tEn s p = q ∧ tSt s p < q) ∨ (tTo s p ≠ c ∧ q = tSt s p) := by
  have b := tSt_b hl p0 p1
  by_cases e : tSt s p = q
  · refine Or.inr ⟨fun w => hn ?_, e.symm⟩
    unfold tTo at w
    split at w
    · omega
    · rw [← e]; exact ⟨by omega, w⟩
  · have h1 := hk (tSt s p) (Int.le_refl _) (by omega)
    have ht : tTo s p = c := by
      unfold tTo
      rw [if_neg (by omega)]
      exact h1
    refine Or.inl ⟨ht, ?_, by omega⟩
    unfold tEn
    rw [if_neg (by omega), ht, if_pos hc]
    exact zRn_of q0 (by omega) hn (fun k k0 k1 => ⟨by omega, hk k k0 k1⟩)
theorem tEn_b {s : Mem} {p : Int} (hl : 0 ≤ s 4 0 ∧ s 4 0 ≤ 150) (p0 : 0 ≤ p) (p1 : p ≤ s 4 0) : tSt s p ≤ tEn s p ∧ tEn s p ≤ s 4 0 ∧ (tTo s p ≠ 0 → tSt s p < tEn s p ∧ tSt s p < s 4 0) ∧ (tTo s p = 0 → s 4 0 ≤ tSt s p) := by
  have b := tSt_b hl p0 p1
  by_cases h : s 4 0 ≤ tSt s p
  · have e1 : tTo s p = 0 := by unfold tTo; rw [if_pos h]
    have e2 : tEn s p = tSt s p := by unfold tEn; rw [if_pos h]
    exact ⟨by omega, by omega, fun w => absurd e1 w, fun _ => h⟩
  · have e1 : tTo s p = sTo (s 3 (tSt s p)) := by unfold tTo; rw [if_neg h]
    have e0 : tTo s p ≠ 0 := by
      rw [e1]; unfold sTo
      split
      · decide
      · split
        · decide
        · split <;> decide
    by_cases h12 : tTo s p = 1 ∨ tTo s p = 2
    · have e2 : tEn s p = zRn (fun k => k < s 4 0 ∧ sTo (s 3 k) = tTo s p) (tSt s p) := by unfold tEn; rw [if_neg h, if_pos h12]
      have key : tSt s p < zRn (fun k => k < s 4 0 ∧ sTo (s 3 k) = tTo s p) (tSt s p) ∧ zRn (fun k => k < s 4 0 ∧ sTo (s 3 k) = tTo s p) (tSt s p) ≤ s 4 0 := by
        unfold zRn
        dsimp only
        rcases zFst_spec (p := fun k => ¬ (tSt s p + k < s 4 0 ∧ sTo (s 3 (tSt s p + k)) = tTo s p)) 152 with ⟨g, g2⟩ | ⟨g0, g1, g2, g3⟩
        · exact absurd (fun w : tSt s p + (s 4 0 - tSt s p) < s 4 0 ∧ sTo (s 3 (tSt s p + (s 4 0 - tSt s p))) = tTo s p => by omega) (g2 (s 4 0 - tSt s p) (by omega) (by omega))
        · refine ⟨?_, ?_⟩
          · apply Classical.byContradiction
            intro hn
            have : zFst (fun k => ¬ (tSt s p + k < s 4 0 ∧ sTo (s 3 (tSt s p + k)) = tTo s p)) 152 = 0 := by omega
            rw [this, Int.add_zero] at g2
            exact g2 ⟨by omega, e1.symm⟩
          · apply Classical.byContradiction
            intro hn
            exact g3 (s 4 0 - tSt s p) (by omega) (by omega) (fun w => by omega)
      rw [e2]
      exact ⟨by omega, key.2, fun _ => ⟨key.1, by omega⟩, fun w => absurd w e0⟩
    · have e2 : tEn s p = tSt s p + 1 := by unfold tEn; rw [if_neg h, if_neg h12]
      exact ⟨by omega, by omega, fun _ => ⟨by omega, by omega⟩, fun w => absurd w e0⟩
theorem m_blanks {p : Int} {D s : Mem} {P : Int → Mem → Prop} (hT : yTx D s) (hp : D 124 7 = p) (p0 : 0 ≤ p) (p1 : p ≤ s 4 0) (hP : ∀ D', yK D D' → D' 124 7 = tSt s p → D' 124 8 = tSt s p → D' 124 9 = D 124 9 → P 0 D') : zC miX6_blanks [zr 124] D P := by
  have hl := hT.1.1
  have b := tSt_b hl p0 p1
  have loop : ∀ (r : Nat) (q : Int) (D2 : Mem), (s 4 0 - q).toNat = r → p ≤ q → q ≤ s 4 0 → yK D D2 → D2 124 7 = q → D2 124 9 = D 124 9 → (∀ k, p ≤ k → k < q → k < s 4 0 ∧ s 3 k = 32) → zW miX6_blanks P 0 [zr 124] D2 := by
    intro r
    induction r with
    | zero =>
      intro q D2 hr q0 q1 hf h7 h9 hk
      have e : tSt s p = q := zRn_of (by omega) (by omega) (fun w => by omega) hk
      refine sX6_blanks_0 _ _ _ _ _ ?_
      simp only [tX6_blanks_0, w_ic, w_lc, w_lds, w_ild, w_lld, w_ald, w_ist, w_lst, w_ast, w_iinc, w_iadd, w_isub, w_imul, w_idiv, w_irem, w_iand, w_ior, w_ixor, w_ishl, w_ishr, w_iushr, w_ineg, w_ladd, w_lsub, w_lmul, w_ldiv, w_lrem, w_lcmp, w_i2l, w_l2i, w_dup, w_pop, w_dup2, w_ieq, w_zeq, w_ine, w_zne, w_ilt, w_zlt, w_ige, w_zge, w_igt, w_zgt, w_ile, w_zle, w_cut, w_tsw, zsw, w_iret, w_zret, w_lret, w_vret, w_nret, w_getI, w_getJ, w_getR, w_putI, w_putZ, w_putJ, w_iald, w_zald, w_iast, w_zast, w_alen, w_sI, w_sJ, w_sV, w_vI, w_vJ, w_vV, w_tI, w_mmax, w_mmin, w_mabs, w_lmax, w_acopy, gL, sL, kl_i, kl_l, kl_r, kl_s, kl_m, qI_i, qJ_l, qA_r, qA_s, pI_i, pJ_l, pA_r, pS_s, pM_m, pV_v, c1_i, c1_r, c1_s, c1_m, cS_0, cS_i, cS_l, cS_r, cS_s, cS_m, pN, z_rc_r, zE1, zE2, zE3, true_and, and_true, Nat.zero_add, Nat.reduceAdd, Nat.reduceLeDiff, true_or, or_true, Int.reduceLE, Int.reduceLT, zcmp_l, zcmp_g, zcmp_e, zcmp_le, mo, mf0, mz0, mf1, mz1, mf2, mz2, mf6, mz6, mf10, mz10, mf11, mz11, mf12, mz12, mf13, mz13, mf14, mz14, mf16, mz16, mf17, mz17, mf18, mz18, mf19, mz19, mi3, mi7, mi8, mi9, mi15, mi4, mi5, mi20, ma125, mn125, ma126, mn126, ma127, mn127, ma128, mn128, ma129, mn129, ma130, mn130, ma131, mn131, ma132, mn132, ma133, mn133, ma134, mn134, ma135, mn135, ma136, mn136, ma137, mn137]
      rw [h7]
      refine m_byteAt (hT.k hf) (by omega) (fun w => by omega) (fun _ => ⟨fun _ => ?_, fun w => absurd (by decide) w⟩)
      rw [h7]
      exact hP _ (hf.trans (yK.up (by decide))) (by rw [zU_k (by decide), h7, e]) (by rw [zU_s, e]) (by rw [zU_k (by decide)]; exact h9)
    | succ r ih =>
      intro q D2 hr q0 q1 hf h7 h9 hk
      refine sX6_blanks_0 _ _ _ _ _ ?_
      simp only [tX6_blanks_0, w_ic, w_lc, w_lds, w_ild, w_lld, w_ald, w_ist, w_lst, w_ast, w_iinc, w_iadd, w_isub, w_imul, w_idiv, w_irem, w_iand, w_ior, w_ixor, w_ishl, w_ishr, w_iushr, w_ineg, w_ladd, w_lsub, w_lmul, w_ldiv, w_lrem, w_lcmp, w_i2l, w_l2i, w_dup, w_pop, w_dup2, w_ieq, w_zeq, w_ine, w_zne, w_ilt, w_zlt, w_ige, w_zge, w_igt, w_zgt, w_ile, w_zle, w_cut, w_tsw, zsw, w_iret, w_zret, w_lret, w_vret, w_nret, w_getI, w_getJ, w_getR, w_putI, w_putZ, w_putJ, w_iald, w_zald, w_iast, w_zast, w_alen, w_sI, w_sJ, w_sV, w_vI, w_vJ, w_vV, w_tI, w_mmax, w_mmin, w_mabs, w_lmax, w_acopy, gL, sL, kl_i, kl_l, kl_r, kl_s, kl_m, qI_i, qJ_l, qA_r, qA_s, pI_i, pJ_l, pA_r, pS_s, pM_m, pV_v, c1_i, c1_r, c1_s, c1_m, cS_0, cS_i, cS_l, cS_r, cS_s, cS_m, pN, z_rc_r, zE1, zE2, zE3, true_and, and_true, Nat.zero_add, Nat.reduceAdd, Nat.reduceLeDiff, true_or, or_true, Int.reduceLE, Int.reduceLT, zcmp_l, zcmp_g, zcmp_e, zcmp_le, mo, mf0, mz0, mf1, mz1, mf2, mz2, mf6, mz6, mf10, mz10, mf11, mz11, mf12, mz12, mf13, mz13, mf14, mz14, mf16, mz16, mf17, mz17, mf18, mz18, mf19, mz19, mi3, mi7, mi8, mi9, mi15, mi4, mi5, mi20, ma125, mn125, ma126, mn126, ma127, mn127, ma128, mn128, ma129, mn129, ma130, mn130, ma131, mn131, ma132, mn132, ma133, mn133, ma134, mn134, ma135, mn135, ma136, mn136, ma137, mn137]
      rw [h7]
      refine m_byteAt (hT.k hf) (by omega) (fun _ => ⟨fun w => ?_, fun w => ?_⟩) (fun w => by omega)
      · have e : tSt s p = q := zRn_of (by omega) (by omega) (fun w2 => w w2.2) hk
        rw [h7]
        exact hP _ (hf.trans (yK.up (by decide))) (by rw [zU_k (by decide), h7, e]) (by rw [zU_s, e]) (by rw [zU_k (by decide)]; exact h9)
      · rw [h7]
        refine ⟨⟨by omega, by omega⟩, ih (q + 1) _ (by omega) (by omega) (by omega) (hf.trans (yK.up (by decide))) zU_s (by rw [zU_k (by decide)]; exact h9) fun k k0 k1 => ?_⟩
        by_cases e : k = q
        · rw [e]; exact ⟨by omega, Decidable.not_not.mp w⟩
        · exact hk k k0 (by omega)
  exact zC.go (ls := [zr 124]) (K := fun E => w_cut miX6_blanks E 0) mk_X6_blanks (fun E => S_cut) rfl (Nat.le_of_ble_eq_true rfl) (loop _ p D rfl (Int.le_refl _) p1 yK.rfl hp rfl (fun k k0 k1 => by omega))
theorem sTo_1i {b : Int} : sTo b = 1 ↔ 97 ≤ b ∧ b ≤ 122 := by
  unfold sTo
  split
  · omega
  · split
    · omega
    · split <;> omega
theorem sTo_2i {b : Int} : sTo b = 2 ↔ 48 ≤ b ∧ b ≤ 57 := by
  unfold sTo
  split
  · omega
  · split
    · omega
    · split <;> omega
theorem sTo_3i {b : Int} : sTo b = 3 ↔ b = 59 := by
  unfold sTo
  split
  · omega
  · split
    · omega
    · split <;> omega
/-- how long the word is -/
noncomputable def tWl (s : Mem) (p : Int) : Int := if tTo s p = 1 then tEn s p - tSt s p else 0
theorem m_takesWord {p : Int} {D s : Mem} {P : Int → Mem → Prop} (hT : yTx D s) (hp : D 124 7 = p) (p0 : 0 ≤ p) (p1 : p ≤ s 4 0) (hP : ∀ D', yK D D' → D' 124 7 = tSt s p + tWl s p → D' 124 8 = tSt s p → P 0 D') : zC miX6_takesWord [zr 124] D P := by
  have hl := hT.1.1
  have b := tSt_b hl p0 p1
  have loop : ∀ (r : Nat) (q : Int) (D2 : Mem), (s 4 0 - q).toNat = r → tSt s p ≤ q → q ≤ s 4 0 → yK D D2 → D2 124 7 = q → D2 124 8 = tSt s p → (∀ k, tSt s p ≤ k → k < q → sTo (s 3 k) = 1) → zW miX6_takesWord P 4 [zr 124] D2 := by
    intro r
    induction r with
    | zero =>
      intro q D2 hr q0 q1 hf h7 h8 hk
      have e : tSt s p + tWl s p = q := by
        rcases tEn_run (c := 1) (Or.inl rfl) hl p0 p1 q0 q1 (fun w => by omega) hk with ⟨g1, g2, g3⟩ | ⟨g1, g2⟩
        · unfold tWl; rw [if_pos g1]; omega
        · unfold tWl; rw [if_neg g1]; omega
      refine sX6_takesWord_4 _ _ _ _ _ ?_
      simp only [tX6_takesWord_4, w_ic, w_lc, w_lds, w_ild, w_lld, w_ald, w_ist, w_lst, w_ast, w_iinc, w_iadd, w_isub, w_imul, w_idiv, w_irem, w_iand, w_ior, w_ixor, w_ishl, w_ishr, w_iushr, w_ineg, w_ladd, w_lsub, w_lmul, w_ldiv, w_lrem, w_lcmp, w_i2l, w_l2i, w_dup, w_pop, w_dup2, w_ieq, w_zeq, w_ine, w_zne, w_ilt, w_zlt, w_ige, w_zge, w_igt, w_zgt, w_ile, w_zle, w_cut, w_tsw, zsw, w_iret, w_zret, w_lret, w_vret, w_nret, w_getI, w_getJ, w_getR, w_putI, w_putZ, w_putJ, w_iald, w_zald, w_iast, w_zast, w_alen, w_sI, w_sJ, w_sV, w_vI, w_vJ, w_vV, w_tI, w_mmax, w_mmin, w_mabs, w_lmax, w_acopy, gL, sL, kl_i, kl_l, kl_r, kl_s, kl_m, qI_i, qJ_l, qA_r, qA_s, pI_i, pJ_l, pA_r, pS_s, pM_m, pV_v, c1_i, c1_r, c1_s, c1_m, cS_0, cS_i, cS_l, cS_r, cS_s, cS_m, pN, z_rc_r, zE1, zE2, zE3, true_and, and_true, Nat.zero_add, Nat.reduceAdd, Nat.reduceLeDiff, true_or, or_true, Int.reduceLE, Int.reduceLT, zcmp_l, zcmp_g, zcmp_e, zcmp_le, mo, mf0, mz0, mf1, mz1, mf2, mz2, mf6, mz6, mf10, mz10, mf11, mz11, mf12, mz12, mf13, mz13, mf14, mz14, mf16, mz16, mf17, mz17, mf18, mz18, mf19, mz19, mi3, mi7, mi8, mi9, mi15, mi4, mi5, mi20, ma125, mn125, ma126, mn126, ma127, mn127, ma128, mn128, ma129, mn129, ma130, mn130, ma131, mn131, ma132, mn132, ma133, mn133, ma134, mn134, ma135, mn135, ma136, mn136, ma137, mn137]
      rw [h7]
      refine m_byteAt (hT.k hf) (by omega) (fun w => by omega) (fun _ => ?_)
      exact m_in (fun w => by omega) (fun _ => ⟨fun _ => hP D2 hf (by rw [h7, e]) h8, fun w => absurd rfl w⟩)
    | succ r ih =>
      intro q D2 hr q0 q1 hf h7 h8 hk
      refine sX6_takesWord_4 _ _ _ _ _ ?_
      simp only [tX6_takesWord_4, w_ic, w_lc, w_lds, w_ild, w_lld, w_ald, w_ist, w_lst, w_ast, w_iinc, w_iadd, w_isub, w_imul, w_idiv, w_irem, w_iand, w_ior, w_ixor, w_ishl, w_ishr, w_iushr, w_ineg, w_ladd, w_lsub, w_lmul, w_ldiv, w_lrem, w_lcmp, w_i2l, w_l2i, w_dup, w_pop, w_dup2, w_ieq, w_zeq, w_ine, w_zne, w_ilt, w_zlt, w_ige, w_zge, w_igt, w_zgt, w_ile, w_zle, w_cut, w_tsw, zsw, w_iret, w_zret, w_lret, w_vret, w_nret, w_getI, w_getJ, w_getR, w_putI, w_putZ, w_putJ, w_iald, w_zald, w_iast, w_zast, w_alen, w_sI, w_sJ, w_sV, w_vI, w_vJ, w_vV, w_tI, w_mmax, w_mmin, w_mabs, w_lmax, w_acopy, gL, sL, kl_i, kl_l, kl_r, kl_s, kl_m, qI_i, qJ_l, qA_r, qA_s, pI_i, pJ_l, pA_r, pS_s, pM_m, pV_v, c1_i, c1_r, c1_s, c1_m, cS_0, cS_i, cS_l, cS_r, cS_s, cS_m, pN, z_rc_r, zE1, zE2, zE3, true_and, and_true, Nat.zero_add, Nat.reduceAdd, Nat.reduceLeDiff, true_or, or_true, Int.reduceLE, Int.reduceLT, zcmp_l, zcmp_g, zcmp_e, zcmp_le, mo, mf0, mz0, mf1, mz1, mf2, mz2, mf6, mz6, mf10, mz10, mf11, mz11, mf12, mz12, mf13, mz13, mf14, mz14, mf16, mz16, mf17, mz17, mf18, mz18, mf19, mz19, mi3, mi7, mi8, mi9, mi15, mi4, mi5, mi20, ma125, mn125, ma126, mn126, ma127, mn127, ma128, mn128, ma129, mn129, ma130, mn130, ma131, mn131, ma132, mn132, ma133, mn133, ma134, mn134, ma135, mn135, ma136, mn136, ma137, mn137]
      rw [h7]
      refine m_byteAt (hT.k hf) (by omega) (fun _ => ?_) (fun w => by omega)
      refine m_in (fun w => ⟨fun w2 => absurd w2 (by decide), fun _ => ?_⟩) (fun w => ⟨fun _ => ?_, fun w2 => absurd rfl w2⟩)
      · rw [h7]
        refine ⟨⟨by omega, by omega⟩, ih (q + 1) _ (by omega) (by omega) (by omega) (hf.trans (yK.up (by decide))) zU_s (by rw [zU_k (by decide)]; exact h8) fun k k0 k1 => ?_⟩
        by_cases e : k = q
        · rw [e]; exact sTo_1i.mpr w
        · exact hk k k0 (by omega)
      · have e : tSt s p + tWl s p = q := by
          rcases tEn_run (c := 1) (Or.inl rfl) hl p0 p1 q0 q1 (fun w2 => w (sTo_1i.mp w2.2)) hk with ⟨g1, g2, g3⟩ | ⟨g1, g2⟩
          · unfold tWl; rw [if_pos g1]; omega
          · unfold tWl; rw [if_neg g1]; omega
        exact hP D2 hf (by rw [h7, e]) h8
  refine e_X6_takesWord ?_
  simp only [tX6_takesWord_0, w_ic, w_lc, w_lds, w_ild, w_lld, w_ald, w_ist, w_lst, w_ast, w_iinc, w_iadd, w_isub, w_imul, w_idiv, w_irem, w_iand, w_ior, w_ixor, w_ishl, w_ishr, w_iushr, w_ineg, w_ladd, w_lsub, w_lmul, w_ldiv, w_lrem, w_lcmp, w_i2l, w_l2i, w_dup, w_pop, w_dup2, w_ieq, w_zeq, w_ine, w_zne, w_ilt, w_zlt, w_ige, w_zge, w_igt, w_zgt, w_ile, w_zle, w_cut, w_tsw, zsw, w_iret, w_zret, w_lret, w_vret, w_nret, w_getI, w_getJ, w_getR, w_putI, w_putZ, w_putJ, w_iald, w_zald, w_iast, w_zast, w_alen, w_sI, w_sJ, w_sV, w_vI, w_vJ, w_vV, w_tI, w_mmax, w_mmin, w_mabs, w_lmax, w_acopy, gL, sL, kl_i, kl_l, kl_r, kl_s, kl_m, qI_i, qJ_l, qA_r, qA_s, pI_i, pJ_l, pA_r, pS_s, pM_m, pV_v, c1_i, c1_r, c1_s, c1_m, cS_0, cS_i, cS_l, cS_r, cS_s, cS_m, pN, z_rc_r, zE1, zE2, zE3, true_and, and_true, Nat.zero_add, Nat.reduceAdd, Nat.reduceLeDiff, true_or, or_true, Int.reduceLE, Int.reduceLT, zcmp_l, zcmp_g, zcmp_e, zcmp_le, mo, mf0, mz0, mf1, mz1, mf2, mz2, mf6, mz6, mf10, mz10, mf11, mz11, mf12, mz12, mf13, mz13, mf14, mz14, mf16, mz16, mf17, mz17, mf18, mz18, mf19, mz19, mi3, mi7, mi8, mi9, mi15, mi4, mi5, mi20, ma125, mn125, ma126, mn126, ma127, mn127, ma128, mn128, ma129, mn129, ma130, mn130, ma131, mn131, ma132, mn132, ma133, mn133, ma134, mn134, ma135, mn135, ma136, mn136, ma137, mn137]
  exact m_blanks hT hp p0 p1 fun D' f h7 h8 _ => loop _ (tSt s p) D' rfl (Int.le_refl _) b.2.1 f h7 h8 (fun k k0 k1 => by omega)
/-- the letter at k is so; 0: the word has ended -/
def isLt (s : Mem) (st k c L : Int) : Prop := (c = 0 ∧ L ≤ k) ∨ (c ≠ 0 ∧ k < L ∧ s 3 (st + k) = c)
theorem m_isLetter {D s : Mem} {st k c L : Int} {P : Int → Mem → Prop} (hT : yTx D s) (h8 : D 124 8 = st) (st0 : 0 ≤ st) (hL : st + L ≤ s 4 0) (k0 : 0 ≤ k) (h1 : isLt s st k c L → P 1 D) (h0 : ¬ isLt s st k c L → P 0 D) : zC miX6_isLetter [zr 124, zi k, zi c, zi L] D P := by
  have hl := hT.1.1
  unfold isLt at h1 h0
  refine e_X6_isLetter ?_
  simp only [tX6_isLetter_0, w_ic, w_lc, w_lds, w_ild, w_lld, w_ald, w_ist, w_lst, w_ast, w_iinc, w_iadd, w_isub, w_imul, w_idiv, w_irem, w_iand, w_ior, w_ixor, w_ishl, w_ishr, w_iushr, w_ineg, w_ladd, w_lsub, w_lmul, w_ldiv, w_lrem, w_lcmp, w_i2l, w_l2i, w_dup, w_pop, w_dup2, w_ieq, w_zeq, w_ine, w_zne, w_ilt, w_zlt, w_ige, w_zge, w_igt, w_zgt, w_ile, w_zle, w_cut, w_tsw, zsw, w_iret, w_zret, w_lret, w_vret, w_nret, w_getI, w_getJ, w_getR, w_putI, w_putZ, w_putJ, w_iald, w_zald, w_iast, w_zast, w_alen, w_sI, w_sJ, w_sV, w_vI, w_vJ, w_vV, w_tI, w_mmax, w_mmin, w_mabs, w_lmax, w_acopy, gL, sL, kl_i, kl_l, kl_r, kl_s, kl_m, qI_i, qJ_l, qA_r, qA_s, pI_i, pJ_l, pA_r, pS_s, pM_m, pV_v, c1_i, c1_r, c1_s, c1_m, cS_0, cS_i, cS_l, cS_r, cS_s, cS_m, pN, z_rc_r, zE1, zE2, zE3, true_and, and_true, Nat.zero_add, Nat.reduceAdd, Nat.reduceLeDiff, true_or, or_true, Int.reduceLE, Int.reduceLT, zcmp_l, zcmp_g, zcmp_e, zcmp_le, mo, mf0, mz0, mf1, mz1, mf2, mz2, mf6, mz6, mf10, mz10, mf11, mz11, mf12, mz12, mf13, mz13, mf14, mz14, mf16, mz16, mf17, mz17, mf18, mz18, mf19, mz19, mi3, mi7, mi8, mi9, mi15, mi4, mi5, mi20, ma125, mn125, ma126, mn126, ma127, mn127, ma128, mn128, ma129, mn129, ma130, mn130, ma131, mn131, ma132, mn132, ma133, mn133, ma134, mn134, ma135, mn135, ma136, mn136, ma137, mn137]
  refine ⟨fun q => ⟨fun q2 => h0 (by omega), fun q2 => ?_⟩, fun q => ⟨fun q2 => h0 (by omega), fun q2 => h1 (by omega)⟩⟩
  rw [h8, hT.2.2 _ (by omega) (by omega)]
  exact ⟨⟨by omega, by omega⟩, by omega, by omega, fun q3 => h0 (by omega), fun q3 => h1 (by omega)⟩
theorem m_isWord {D s : Mem} {st L c0 c1 c2 c3 c4 c5 c6 : Int} {P : Int → Mem → Prop} (hT : yTx D s) (h7 : D 124 7 = st + L) (h8 : D 124 8 = st) (st0 : 0 ≤ st) (L0 : 0 ≤ L) (hL : st + L ≤ s 4 0) (h1 : (isLt s st 0 c0 L ∧ isLt s st 1 c1 L ∧ isLt s st 2 c2 L ∧ isLt s st 3 c3 L ∧ isLt s st 4 c4 L ∧ isLt s st 5 c5 L ∧ isLt s st 6 c6 L ∧ L < 8) → P 1 D) (h0 : ¬ (isLt s st 0 c0 L ∧ isLt s st 1 c1 L ∧ isLt s st 2 c2 L ∧ isLt s st 3 c3 L ∧ isLt s st 4 c4 L ∧ isLt s st 5 c5 L ∧ isLt s st 6 c6 L ∧ L < 8) → P 0 D) : zC miX6_isWord [zr 124, zi c0, zi c1, zi c2, zi c3, zi c4, zi c5, zi c6] D P := by
  have hl := hT.1.1
  refine e_X6_isWord ?_
  simp only [tX6_isWord_0, w_ic, w_lc, w_lds, w_ild, w_lld, w_ald, w_ist, w_lst, w_ast, w_iinc, w_iadd, w_isub, w_imul, w_idiv, w_irem, w_iand, w_ior, w_ixor, w_ishl, w_ishr, w_iushr, w_ineg, w_ladd, w_lsub, w_lmul, w_ldiv, w_lrem, w_lcmp, w_i2l, w_l2i, w_dup, w_pop, w_dup2, w_ieq, w_zeq, w_ine, w_zne, w_ilt, w_zlt, w_ige, w_zge, w_igt, w_zgt, w_ile, w_zle, w_cut, w_tsw, zsw, w_iret, w_zret, w_lret, w_vret, w_nret, w_getI, w_getJ, w_getR, w_putI, w_putZ, w_putJ, w_iald, w_zald, w_iast, w_zast, w_alen, w_sI, w_sJ, w_sV, w_vI, w_vJ, w_vV, w_tI, w_mmax, w_mmin, w_mabs, w_lmax, w_acopy, gL, sL, kl_i, kl_l, kl_r, kl_s, kl_m, qI_i, qJ_l, qA_r, qA_s, pI_i, pJ_l, pA_r, pS_s, pM_m, pV_v, c1_i, c1_r, c1_s, c1_m, cS_0, cS_i, cS_l, cS_r, cS_s, cS_m, pN, z_rc_r, zE1, zE2, zE3, true_and, and_true, Nat.zero_add, Nat.reduceAdd, Nat.reduceLeDiff, true_or, or_true, Int.reduceLE, Int.reduceLT, zcmp_l, zcmp_g, zcmp_e, zcmp_le, mo, mf0, mz0, mf1, mz1, mf2, mz2, mf6, mz6, mf10, mz10, mf11, mz11, mf12, mz12, mf13, mz13, mf14, mz14, mf16, mz16, mf17, mz17, mf18, mz18, mf19, mz19, mi3, mi7, mi8, mi9, mi15, mi4, mi5, mi20, ma125, mn125, ma126, mn126, ma127, mn127, ma128, mn128, ma129, mn129, ma130, mn130, ma131, mn131, ma132, mn132, ma133, mn133, ma134, mn134, ma135, mn135, ma136, mn136, ma137, mn137]
  rw [h7, h8, show st + L - st = L by omega]
  refine ⟨⟨by omega, by omega⟩, ?_⟩
  refine m_isLetter hT h8 st0 hL (by decide) (fun g0 => ⟨fun w => absurd w (by decide), fun _ => ?_⟩) (fun g => ⟨fun _ => h0 fun w => g w.1, fun w => absurd rfl w⟩)
  refine m_isLetter hT h8 st0 hL (by decide) (fun g1 => ⟨fun w => absurd w (by decide), fun _ => ?_⟩) (fun g => ⟨fun _ => h0 fun w => g w.2.1, fun w => absurd rfl w⟩)
  refine m_isLetter hT h8 st0 hL (by decide) (fun g2 => ⟨fun w => absurd w (by decide), fun _ => ?_⟩) (fun g => ⟨fun _ => h0 fun w => g w.2.2.1, fun w => absurd rfl w⟩)
  refine m_isLetter hT h8 st0 hL (by decide) (fun g3 => ⟨fun w => absurd w (by decide), fun _ => ?_⟩) (fun g => ⟨fun _ => h0 fun w => g w.2.2.2.1, fun w => absurd rfl w⟩)
  refine m_isLetter hT h8 st0 hL (by decide) (fun g4 => ⟨fun w => absurd w (by decide), fun _ => ?_⟩) (fun g => ⟨fun _ => h0 fun w => g w.2.2.2.2.1, fun w => absurd rfl w⟩)
  refine m_isLetter hT h8 st0 hL (by decide) (fun g5 => ⟨fun w => absurd w (by decide), fun _ => ?_⟩) (fun g => ⟨fun _ => h0 fun w => g w.2.2.2.2.2.1, fun w => absurd rfl w⟩)
  refine m_isLetter hT h8 st0 hL (by decide) (fun g6 => ⟨fun w => absurd w (by decide), fun _ => ?_⟩) (fun g => ⟨fun _ => h0 fun w => g w.2.2.2.2.2.2.1, fun w => absurd rfl w⟩)
  exact ⟨fun q => h0 fun w => by have := w.2.2.2.2.2.2.2; omega, fun q => h1 ⟨g0, g1, g2, g3, g4, g5, g6, by omega⟩⟩
theorem wd_0 {s : Mem} {p : Int} : (isLt s (tSt s p) 0 98 (tWl s p) ∧ isLt s (tSt s p) 1 97 (tWl s p) ∧ isLt s (tSt s p) 2 99 (tWl s p) ∧ isLt s (tSt s p) 3 107 (tWl s p) ∧ isLt s (tSt s p) 4 0 (tWl s p) ∧ isLt s (tSt s p) 5 0 (tWl s p) ∧ isLt s (tSt s p) 6 0 (tWl s p) ∧ tWl s p < 8) ↔ isWd s (tTo s p) (tSt s p) (tEn s p) 0 := by
  have e : ((zsl.getD 0 0 : Nat) : Int) = 4 := by decide
  have z0 : zch 0 0 = 98 := by decide +kernel
  have z1 : zch 0 1 = 97 := by decide +kernel
  have z2 : zch 0 2 = 99 := by decide +kernel
  have z3 : zch 0 3 = 107 := by decide +kernel
  unfold isWd isLt tWl
  rw [e]
  constructor
  · rintro ⟨g0, g1, g2, g3, g4, g5, g6, g7⟩
    by_cases ht : tTo s p = 1
    · rw [if_pos ht] at g0 g1 g2 g3 g4 g5 g6 g7
      refine ⟨ht, by omega, fun k k0 k1 => ?_⟩
      rcases (by omega : k = 0 ∨ k = 1 ∨ k = 2 ∨ k = 3) with q | q | q | q
      · rw [q, z0]; omega
      · rw [q, z1]; omega
      · rw [q, z2]; omega
      · rw [q, z3]; omega
    · rw [if_neg ht] at g0; omega
  · rintro ⟨ht, hn, hk⟩
    rw [if_pos ht]
    have k0 := hk 0 (by decide) (by decide)
    rw [z0] at k0
    have k1 := hk 1 (by decide) (by decide)
    rw [z1] at k1
    have k2 := hk 2 (by decide) (by decide)
    rw [z2] at k2
    have k3 := hk 3 (by decide) (by decide)
    rw [z3] at k3
    refine ⟨by omega, by omega, by omega, by omega, by omega, by omega, by omega, by omega⟩
theorem wd_1 {s : Mem} {p : Int} : (isLt s (tSt s p) 0 108 (tWl s p) ∧ isLt s (tSt s p) 1 97 (tWl s p) ∧ isLt s (tSt s p) 2 100 (tWl s p) ∧ isLt s (tSt s p) 3 100 (tWl s p) ∧ isLt s (tSt s p) 4 101 (tWl s p) ∧ isLt s (tSt s p) 5 114 (tWl s p) ∧ isLt s (tSt s p) 6 0 (tWl s p) ∧ tWl s p < 8) ↔ isWd s (tTo s p) (tSt s p) (tEn s p) 1 := by
  have e : ((zsl.getD 1 0 : Nat) : Int) = 6 := by decide
  have z0 : zch 1 0 = 108 := by decide +kernel
  have z1 : zch 1 1 = 97 := by decide +kernel
  have z2 : zch 1 2 = 100 := by decide +kernel
  have z3 : zch 1 3 = 100 := by decide +kernel
  have z4 : zch 1 4 = 101 := by decide +kernel
  have z5 : zch 1 5 = 114 := by decide +kernel
  unfold isWd isLt tWl
  rw [e]
  constructor
  · rintro ⟨g0, g1, g2, g3, g4, g5, g6, g7⟩
    by_cases ht : tTo s p = 1
    · rw [if_pos ht] at g0 g1 g2 g3 g4 g5 g6 g7
      refine ⟨ht, by omega, fun k k0 k1 => ?_⟩
      rcases (by omega : k = 0 ∨ k = 1 ∨ k = 2 ∨ k = 3 ∨ k = 4 ∨ k = 5) with q | q | q | q | q | q
      · rw [q, z0]; omega
      · rw [q, z1]; omega
      · rw [q, z2]; omega
      · rw [q, z3]; omega
      · rw [q, z4]; omega
      · rw [q, z5]; omega
    · rw [if_neg ht] at g0; omega
  · rintro ⟨ht, hn, hk⟩
    rw [if_pos ht]
    have k0 := hk 0 (by decide) (by decide)
    rw [z0] at k0
    have k1 := hk 1 (by decide) (by decide)
    rw [z1] at k1
    have k2 := hk 2 (by decide) (by decide)
    rw [z2] at k2
    have k3 := hk 3 (by decide) (by decide)
    rw [z3] at k3
    have k4 := hk 4 (by decide) (by decide)
    rw [z4] at k4
    have k5 := hk 5 (by decide) (by decide)
    rw [z5] at k5
    refine ⟨by omega, by omega, by omega, by omega, by omega, by omega, by omega, by omega⟩
theorem wd_2 {s : Mem} {p : Int} : (isLt s (tSt s p) 0 103 (tWl s p) ∧ isLt s (tSt s p) 1 111 (tWl s p) ∧ isLt s (tSt s p) 2 101 (tWl s p) ∧ isLt s (tSt s p) 3 114 (tWl s p) ∧ isLt s (tSt s p) 4 0 (tWl s p) ∧ isLt s (tSt s p) 5 0 (tWl s p) ∧ isLt s (tSt s p) 6 0 (tWl s p) ∧ tWl s p < 8) ↔ isWd s (tTo s p) (tSt s p) (tEn s p) 2 := by
  have e : ((zsl.getD 2 0 : Nat) : Int) = 4 := by decide
  have z0 : zch 2 0 = 103 := by decide +kernel
  have z1 : zch 2 1 = 111 := by decide +kernel
  have z2 : zch 2 2 = 101 := by decide +kernel
  have z3 : zch 2 3 = 114 := by decide +kernel
  unfold isWd isLt tWl
  rw [e]
  constructor
  · rintro ⟨g0, g1, g2, g3, g4, g5, g6, g7⟩
    by_cases ht : tTo s p = 1
    · rw [if_pos ht] at g0 g1 g2 g3 g4 g5 g6 g7
      refine ⟨ht, by omega, fun k k0 k1 => ?_⟩
      rcases (by omega : k = 0 ∨ k = 1 ∨ k = 2 ∨ k = 3) with q | q | q | q
      · rw [q, z0]; omega
      · rw [q, z1]; omega
      · rw [q, z2]; omega
      · rw [q, z3]; omega
    · rw [if_neg ht] at g0; omega
  · rintro ⟨ht, hn, hk⟩
    rw [if_pos ht]
    have k0 := hk 0 (by decide) (by decide)
    rw [z0] at k0
    have k1 := hk 1 (by decide) (by decide)
    rw [z1] at k1
    have k2 := hk 2 (by decide) (by decide)
    rw [z2] at k2
    have k3 := hk 3 (by decide) (by decide)
    rw [z3] at k3
    refine ⟨by omega, by omega, by omega, by omega, by omega, by omega, by omega, by omega⟩
theorem wd_3 {s : Mem} {p : Int} : (isLt s (tSt s p) 0 119 (tWl s p) ∧ isLt s (tSt s p) 1 105 (tWl s p) ∧ isLt s (tSt s p) 2 110 (tWl s p) ∧ isLt s (tSt s p) 3 100 (tWl s p) ∧ isLt s (tSt s p) 4 111 (tWl s p) ∧ isLt s (tSt s p) 5 119 (tWl s p) ∧ isLt s (tSt s p) 6 0 (tWl s p) ∧ tWl s p < 8) ↔ isWd s (tTo s p) (tSt s p) (tEn s p) 3 := by
  have e : ((zsl.getD 3 0 : Nat) : Int) = 6 := by decide
  have z0 : zch 3 0 = 119 := by decide +kernel
  have z1 : zch 3 1 = 105 := by decide +kernel
  have z2 : zch 3 2 = 110 := by decide +kernel
  have z3 : zch 3 3 = 100 := by decide +kernel
  have z4 : zch 3 4 = 111 := by decide +kernel
  have z5 : zch 3 5 = 119 := by decide +kernel
  unfold isWd isLt tWl
  rw [e]
  constructor
  · rintro ⟨g0, g1, g2, g3, g4, g5, g6, g7⟩
    by_cases ht : tTo s p = 1
    · rw [if_pos ht] at g0 g1 g2 g3 g4 g5 g6 g7
      refine ⟨ht, by omega, fun k k0 k1 => ?_⟩
      rcases (by omega : k = 0 ∨ k = 1 ∨ k = 2 ∨ k = 3 ∨ k = 4 ∨ k = 5) with q | q | q | q | q | q
      · rw [q, z0]; omega
      · rw [q, z1]; omega
      · rw [q, z2]; omega
      · rw [q, z3]; omega
      · rw [q, z4]; omega
      · rw [q, z5]; omega
    · rw [if_neg ht] at g0; omega
  · rintro ⟨ht, hn, hk⟩
    rw [if_pos ht]
    have k0 := hk 0 (by decide) (by decide)
    rw [z0] at k0
    have k1 := hk 1 (by decide) (by decide)
    rw [z1] at k1
    have k2 := hk 2 (by decide) (by decide)
    rw [z2] at k2
    have k3 := hk 3 (by decide) (by decide)
    rw [z3] at k3
    have k4 := hk 4 (by decide) (by decide)
    rw [z4] at k4
    have k5 := hk 5 (by decide) (by decide)
    rw [z5] at k5
    refine ⟨by omega, by omega, by omega, by omega, by omega, by omega, by omega, by omega⟩
theorem wd_4 {s : Mem} {p : Int} : (isLt s (tSt s p) 0 116 (tWl s p) ∧ isLt s (tSt s p) 1 117 (tWl s p) ∧ isLt s (tSt s p) 2 114 (tWl s p) ∧ isLt s (tSt s p) 3 110 (tWl s p) ∧ isLt s (tSt s p) 4 0 (tWl s p) ∧ isLt s (tSt s p) 5 0 (tWl s p) ∧ isLt s (tSt s p) 6 0 (tWl s p) ∧ tWl s p < 8) ↔ isWd s (tTo s p) (tSt s p) (tEn s p) 4 := by
  have e : ((zsl.getD 4 0 : Nat) : Int) = 4 := by decide
  have z0 : zch 4 0 = 116 := by decide +kernel
  have z1 : zch 4 1 = 117 := by decide +kernel
  have z2 : zch 4 2 = 114 := by decide +kernel
  have z3 : zch 4 3 = 110 := by decide +kernel
  unfold isWd isLt tWl
  rw [e]
  constructor
  · rintro ⟨g0, g1, g2, g3, g4, g5, g6, g7⟩
    by_cases ht : tTo s p = 1
    · rw [if_pos ht] at g0 g1 g2 g3 g4 g5 g6 g7
      refine ⟨ht, by omega, fun k k0 k1 => ?_⟩
      rcases (by omega : k = 0 ∨ k = 1 ∨ k = 2 ∨ k = 3) with q | q | q | q
      · rw [q, z0]; omega
      · rw [q, z1]; omega
      · rw [q, z2]; omega
      · rw [q, z3]; omega
    · rw [if_neg ht] at g0; omega
  · rintro ⟨ht, hn, hk⟩
    rw [if_pos ht]
    have k0 := hk 0 (by decide) (by decide)
    rw [z0] at k0
    have k1 := hk 1 (by decide) (by decide)
    rw [z1] at k1
    have k2 := hk 2 (by decide) (by decide)
    rw [z2] at k2
    have k3 := hk 3 (by decide) (by decide)
    rw [z3] at k3
    refine ⟨by omega, by omega, by omega, by omega, by omega, by omega, by omega, by omega⟩
theorem wd_5 {s : Mem} {p : Int} : (isLt s (tSt s p) 0 100 (tWl s p) ∧ isLt s (tSt s p) 1 114 (tWl s p) ∧ isLt s (tSt s p) 2 97 (tWl s p) ∧ isLt s (tSt s p) 3 119 (tWl s p) ∧ isLt s (tSt s p) 4 0 (tWl s p) ∧ isLt s (tSt s p) 5 0 (tWl s p) ∧ isLt s (tSt s p) 6 0 (tWl s p) ∧ tWl s p < 8) ↔ isWd s (tTo s p) (tSt s p) (tEn s p) 5 := by
  have e : ((zsl.getD 5 0 : Nat) : Int) = 4 := by decide
  have z0 : zch 5 0 = 100 := by decide +kernel
  have z1 : zch 5 1 = 114 := by decide +kernel
  have z2 : zch 5 2 = 97 := by decide +kernel
  have z3 : zch 5 3 = 119 := by decide +kernel
  unfold isWd isLt tWl
  rw [e]
  constructor
  · rintro ⟨g0, g1, g2, g3, g4, g5, g6, g7⟩
    by_cases ht : tTo s p = 1
    · rw [if_pos ht] at g0 g1 g2 g3 g4 g5 g6 g7
      refine ⟨ht, by omega, fun k k0 k1 => ?_⟩
      rcases (by omega : k = 0 ∨ k = 1 ∨ k = 2 ∨ k = 3) with q | q | q | q
      · rw [q, z0]; omega
      · rw [q, z1]; omega
      · rw [q, z2]; omega
      · rw [q, z3]; omega
    · rw [if_neg ht] at g0; omega
  · rintro ⟨ht, hn, hk⟩
    rw [if_pos ht]
    have k0 := hk 0 (by decide) (by decide)
    rw [z0] at k0
    have k1 := hk 1 (by decide) (by decide)
    rw [z1] at k1
    have k2 := hk 2 (by decide) (by decide)
    rw [z2] at k2
    have k3 := hk 3 (by decide) (by decide)
    rw [z3] at k3
    refine ⟨by omega, by omega, by omega, by omega, by omega, by omega, by omega, by omega⟩
theorem wd_6 {s : Mem} {p : Int} : (isLt s (tSt s p) 0 109 (tWl s p) ∧ isLt s (tSt s p) 1 105 (tWl s p) ∧ isLt s (tSt s p) 2 110 (tWl s p) ∧ isLt s (tSt s p) 3 117 (tWl s p) ∧ isLt s (tSt s p) 4 116 (tWl s p) ∧ isLt s (tSt s p) 5 101 (tWl s p) ∧ isLt s (tSt s p) 6 115 (tWl s p) ∧ tWl s p < 8) ↔ isWd s (tTo s p) (tSt s p) (tEn s p) 6 := by
  have e : ((zsl.getD 6 0 : Nat) : Int) = 7 := by decide
  have z0 : zch 6 0 = 109 := by decide +kernel
  have z1 : zch 6 1 = 105 := by decide +kernel
  have z2 : zch 6 2 = 110 := by decide +kernel
  have z3 : zch 6 3 = 117 := by decide +kernel
  have z4 : zch 6 4 = 116 := by decide +kernel
  have z5 : zch 6 5 = 101 := by decide +kernel
  have z6 : zch 6 6 = 115 := by decide +kernel
  unfold isWd isLt tWl
  rw [e]
  constructor
  · rintro ⟨g0, g1, g2, g3, g4, g5, g6, g7⟩
    by_cases ht : tTo s p = 1
    · rw [if_pos ht] at g0 g1 g2 g3 g4 g5 g6 g7
      refine ⟨ht, by omega, fun k k0 k1 => ?_⟩
      rcases (by omega : k = 0 ∨ k = 1 ∨ k = 2 ∨ k = 3 ∨ k = 4 ∨ k = 5 ∨ k = 6) with q | q | q | q | q | q | q
      · rw [q, z0]; omega
      · rw [q, z1]; omega
      · rw [q, z2]; omega
      · rw [q, z3]; omega
      · rw [q, z4]; omega
      · rw [q, z5]; omega
      · rw [q, z6]; omega
    · rw [if_neg ht] at g0; omega
  · rintro ⟨ht, hn, hk⟩
    rw [if_pos ht]
    have k0 := hk 0 (by decide) (by decide)
    rw [z0] at k0
    have k1 := hk 1 (by decide) (by decide)
    rw [z1] at k1
    have k2 := hk 2 (by decide) (by decide)
    rw [z2] at k2
    have k3 := hk 3 (by decide) (by decide)
    rw [z3] at k3
    have k4 := hk 4 (by decide) (by decide)
    rw [z4] at k4
    have k5 := hk 5 (by decide) (by decide)
    rw [z5] at k5
    have k6 := hk 6 (by decide) (by decide)
    rw [z6] at k6
    refine ⟨by omega, by omega, by omega, by omega, by omega, by omega, by omega, by omega⟩
theorem wd_u {s : Mem} {tk st en : Int} {i j : Nat} (hi : i < 7) (hj : j < 7) (h : isWd s tk st en i) (h2 : isWd s tk st en j) : i = j := by
  have p : ∀ i, i < 7 → (0 : Int) < ((zsl.getD i 0 : Nat) : Int) := by decide
  have e1 := h.2.2 0 (by decide) (p i hi)
  have e2 := h2.2.2 0 (by decide) (p j hj)
  rw [e1] at e2
  have key : ∀ i, i < 7 → ∀ j, j < 7 → zch i 0 = zch j 0 → i = j := by decide +kernel
  exact key i hi j hj e2
/-- which word it is: 0 none -/
noncomputable def tWd (s : Mem) (p : Int) : Int := cIf (isWd s (tTo s p) (tSt s p) (tEn s p) 0) 1 (cIf (isWd s (tTo s p) (tSt s p) (tEn s p) 1) 2 (cIf (isWd s (tTo s p) (tSt s p) (tEn s p) 2) 3 (cIf (isWd s (tTo s p) (tSt s p) (tEn s p) 3) 4 (cIf (isWd s (tTo s p) (tSt s p) (tEn s p) 4) 5 (cIf (isWd s (tTo s p) (tSt s p) (tEn s p) 5) 6 (cIf (isWd s (tTo s p) (tSt s p) (tEn s p) 6) 7 0))))))
theorem tWl_b {s : Mem} {p : Int} (hl : 0 ≤ s 4 0 ∧ s 4 0 ≤ 150) (p0 : 0 ≤ p) (p1 : p ≤ s 4 0) : 0 ≤ tWl s p ∧ tSt s p + tWl s p ≤ s 4 0 := by
  have b := tSt_b hl p0 p1
  have e := tEn_b hl p0 p1
  unfold tWl
  split <;> omega
set_option maxRecDepth 20000 in
theorem m_wordOf {D s : Mem} {p : Int} {P : Int → Mem → Prop} (hT : yTx D s) (p0 : 0 ≤ p) (p1 : p ≤ s 4 0) (h7 : D 124 7 = tSt s p + tWl s p) (h8 : D 124 8 = tSt s p) (hP : P (tWd s p) D) : zC miX6_wordOf [zr 124] D P := by
  have b := tSt_b hT.1.1 p0 p1
  have bw := tWl_b hT.1.1 p0 p1
  unfold tWd at hP
  refine e_X6_wordOf ?_
  simp only [tX6_wordOf_0, w_ic, w_lc, w_lds, w_ild, w_lld, w_ald, w_ist, w_lst, w_ast, w_iinc, w_iadd, w_isub, w_imul, w_idiv, w_irem, w_iand, w_ior, w_ixor, w_ishl, w_ishr, w_iushr, w_ineg, w_ladd, w_lsub, w_lmul, w_ldiv, w_lrem, w_lcmp, w_i2l, w_l2i, w_dup, w_pop, w_dup2, w_ieq, w_zeq, w_ine, w_zne, w_ilt, w_zlt, w_ige, w_zge, w_igt, w_zgt, w_ile, w_zle, w_cut, w_tsw, zsw, w_iret, w_zret, w_lret, w_vret, w_nret, w_getI, w_getJ, w_getR, w_putI, w_putZ, w_putJ, w_iald, w_zald, w_iast, w_zast, w_alen, w_sI, w_sJ, w_sV, w_vI, w_vJ, w_vV, w_tI, w_mmax, w_mmin, w_mabs, w_lmax, w_acopy, gL, sL, kl_i, kl_l, kl_r, kl_s, kl_m, qI_i, qJ_l, qA_r, qA_s, pI_i, pJ_l, pA_r, pS_s, pM_m, pV_v, c1_i, c1_r, c1_s, c1_m, cS_0, cS_i, cS_l, cS_r, cS_s, cS_m, pN, z_rc_r, zE1, zE2, zE3, true_and, and_true, Nat.zero_add, Nat.reduceAdd, Nat.reduceLeDiff, true_or, or_true, Int.reduceLE, Int.reduceLT, zcmp_l, zcmp_g, zcmp_e, zcmp_le, mo, mf0, mz0, mf1, mz1, mf2, mz2, mf6, mz6, mf10, mz10, mf11, mz11, mf12, mz12, mf13, mz13, mf14, mz14, mf16, mz16, mf17, mz17, mf18, mz18, mf19, mz19, mi3, mi7, mi8, mi9, mi15, mi4, mi5, mi20, ma125, mn125, ma126, mn126, ma127, mn127, ma128, mn128, ma129, mn129, ma130, mn130, ma131, mn131, ma132, mn132, ma133, mn133, ma134, mn134, ma135, mn135, ma136, mn136, ma137, mn137]
  refine m_isWord hT h7 h8 (by omega) bw.1 bw.2 (fun g => ⟨fun w => absurd w (by decide), fun _ => by rw [cIf_t (wd_0.mp g)] at hP; exact hP⟩) (fun g => ⟨fun _ => ?_, fun w => absurd rfl w⟩)
  rw [cIf_f (fun w => g (wd_0.mpr w))] at hP
  clear g
  refine m_isWord hT h7 h8 (by omega) bw.1 bw.2 (fun g => ⟨fun w => absurd w (by decide), fun _ => by rw [cIf_t (wd_1.mp g)] at hP; exact hP⟩) (fun g => ⟨fun _ => ?_, fun w => absurd rfl w⟩)
  rw [cIf_f (fun w => g (wd_1.mpr w))] at hP
  clear g
  refine m_isWord hT h7 h8 (by omega) bw.1 bw.2 (fun g => ⟨fun w => absurd w (by decide), fun _ => by rw [cIf_t (wd_2.mp g)] at hP; exact hP⟩) (fun g => ⟨fun _ => ?_, fun w => absurd rfl w⟩)
  rw [cIf_f (fun w => g (wd_2.mpr w))] at hP
  clear g
  refine m_isWord hT h7 h8 (by omega) bw.1 bw.2 (fun g => ⟨fun w => absurd w (by decide), fun _ => by rw [cIf_t (wd_3.mp g)] at hP; exact hP⟩) (fun g => ⟨fun _ => ?_, fun w => absurd rfl w⟩)
  rw [cIf_f (fun w => g (wd_3.mpr w))] at hP
  clear g
  refine m_isWord hT h7 h8 (by omega) bw.1 bw.2 (fun g => ⟨fun w => absurd w (by decide), fun _ => by rw [cIf_t (wd_4.mp g)] at hP; exact hP⟩) (fun g => ⟨fun _ => ?_, fun w => absurd rfl w⟩)
  rw [cIf_f (fun w => g (wd_4.mpr w))] at hP
  clear g
  refine m_isWord hT h7 h8 (by omega) bw.1 bw.2 (fun g => ⟨fun w => absurd w (by decide), fun _ => by rw [cIf_t (wd_5.mp g)] at hP; exact hP⟩) (fun g => ⟨fun _ => ?_, fun w => absurd rfl w⟩)
  rw [cIf_f (fun w => g (wd_5.mpr w))] at hP
  clear g
  refine m_isWord hT h7 h8 (by omega) bw.1 bw.2 (fun g => ⟨fun w => absurd w (by decide), fun _ => by rw [cIf_t (wd_6.mp g)] at hP; exact hP⟩) (fun g => ⟨fun _ => ?_, fun w => absurd rfl w⟩)
  rw [cIf_f (fun w => g (wd_6.mpr w))] at hP
  clear g
  exact hP
/-- the number so far -/
def tNs (s : Mem) (st q : Int) : Int := if q - st = 0 then 0 else if q - st = 1 then s 3 st - 48 else 10 * (s 3 st - 48) + (s 3 (st + 1) - 48)
theorem m_takesNumber {D s : Mem} {p lo hi : Int} {P : Int → Mem → Prop} (hT : yTx D s) (hp : D 124 7 = p) (p0 : 0 ≤ p) (p1 : p ≤ s 4 0) (h1 : isNum s p lo hi → ∀ D', yK D D' → D' 124 7 = tEn s p → D' 124 8 = tSt s p → D' 124 9 = tNm s p → P 1 D') (h0 : ¬ isNum s p lo hi → ∀ D', yK D D' → D' 124 8 = tSt s p → P 0 D') : zC miX6_takesNumber [zr 124, zi lo, zi hi] D P := by
  have hl := hT.1.1
  have b := tSt_b hl p0 p1
  have fin : ∀ (q : Int) (D2 : Mem), tSt s p ≤ q → q ≤ s 4 0 → yK D D2 → D2 124 7 = q → D2 124 8 = tSt s p → D2 124 9 = tNs s (tSt s p) q → (∀ k, tSt s p ≤ k → k < q → sTo (s 3 k) = 2) → ¬ (q < s 4 0 ∧ sTo (s 3 q) = 2) → zC miX6_in [zl (q - tSt s p), zl 1, zl 2] D2 (fun x D' => (x = 0 → P 0 D') ∧ (¬ x = 0 → zC miX6_in [zl (D' 124 9), zl lo, zl hi] D' (fun y D'' => (y = 0 → P 0 D'') ∧ (¬ y = 0 → P 1 D'')))) := by
    intro q D2 q0 q1 hf h7 h8 h9 hk hn
    unfold isNum at h1 h0
    rcases tEn_run (c := 2) (Or.inr rfl) hl p0 p1 q0 q1 hn hk with ⟨g1, g2, g3⟩ | ⟨g1, g2⟩
    · have en : q - tSt s p ≤ 2 → tNs s (tSt s p) q = tNm s p := fun g => by
        unfold tNs tNm tNu
        rw [g2, if_neg (by omega)]
        by_cases q2 : q - tSt s p = 2
        · rw [if_pos q2, if_neg (by omega), show tSt s p + 1 = q - 1 by omega]; omega
        · rw [if_neg q2, if_pos (by omega), show tSt s p = q - 1 by omega]
      refine m_in (fun w => ⟨fun w2 => absurd w2 (by decide), fun _ => ?_⟩) (fun w => ⟨fun _ => h0 (fun w2 => w (by omega)) D2 hf h8, fun w2 => absurd rfl w2⟩)
      rw [h9, en w.2]
      refine m_in (fun w2 => ⟨fun w3 => absurd w3 (by decide), fun _ => h1 ⟨g1, by omega, w2.1, w2.2⟩ D2 hf (by rw [h7, g2]) h8 (by rw [h9, en w.2])⟩) (fun w2 => ⟨fun _ => h0 (fun w3 => w2 ⟨w3.2.2.1, w3.2.2.2⟩) D2 hf h8, fun w3 => absurd rfl w3⟩)
    · refine m_in (fun w => by omega) (fun w => ⟨fun _ => h0 (fun w2 => g1 w2.1) D2 hf h8, fun w2 => absurd rfl w2⟩)
  have loop : ∀ (r : Nat) (q : Int) (D2 : Mem), (s 4 0 - q).toNat = r → tSt s p ≤ q → q ≤ s 4 0 → yK D D2 → D2 124 7 = q → D2 124 8 = tSt s p → D2 124 9 = tNs s (tSt s p) q → (∀ k, tSt s p ≤ k → k < q → sTo (s 3 k) = 2) → zW miX6_takesNumber P 9 [zr 124, zi lo, zi hi] D2 := by
    intro r
    induction r with
    | zero =>
      intro q D2 hr q0 q1 hf h7 h8 h9 hk
      have f := fin q D2 q0 q1 hf h7 h8 h9 hk (fun w => by omega)
      refine sX6_takesNumber_9 _ _ _ _ _ ?_
      simp only [tX6_takesNumber_9, w_ic, w_lc, w_lds, w_ild, w_lld, w_ald, w_ist, w_lst, w_ast, w_iinc, w_iadd, w_isub, w_imul, w_idiv, w_irem, w_iand, w_ior, w_ixor, w_ishl, w_ishr, w_iushr, w_ineg, w_ladd, w_lsub, w_lmul, w_ldiv, w_lrem, w_lcmp, w_i2l, w_l2i, w_dup, w_pop, w_dup2, w_ieq, w_zeq, w_ine, w_zne, w_ilt, w_zlt, w_ige, w_zge, w_igt, w_zgt, w_ile, w_zle, w_cut, w_tsw, zsw, w_iret, w_zret, w_lret, w_vret, w_nret, w_getI, w_getJ, w_getR, w_putI, w_putZ, w_putJ, w_iald, w_zald, w_iast, w_zast, w_alen, w_sI, w_sJ, w_sV, w_vI, w_vJ, w_vV, w_tI, w_mmax, w_mmin, w_mabs, w_lmax, w_acopy, gL, sL, kl_i, kl_l, kl_r, kl_s, kl_m, qI_i, qJ_l, qA_r, qA_s, pI_i, pJ_l, pA_r, pS_s, pM_m, pV_v, c1_i, c1_r, c1_s, c1_m, cS_0, cS_i, cS_l, cS_r, cS_s, cS_m, pN, z_rc_r, zE1, zE2, zE3, true_and, and_true, Nat.zero_add, Nat.reduceAdd, Nat.reduceLeDiff, true_or, or_true, Int.reduceLE, Int.reduceLT, zcmp_l, zcmp_g, zcmp_e, zcmp_le, mo, mf0, mz0, mf1, mz1, mf2, mz2, mf6, mz6, mf10, mz10, mf11, mz11, mf12, mz12, mf13, mz13, mf14, mz14, mf16, mz16, mf17, mz17, mf18, mz18, mf19, mz19, mi3, mi7, mi8, mi9, mi15, mi4, mi5, mi20, ma125, mn125, ma126, mn126, ma127, mn127, ma128, mn128, ma129, mn129, ma130, mn130, ma131, mn131, ma132, mn132, ma133, mn133, ma134, mn134, ma135, mn135, ma136, mn136, ma137, mn137]
      rw [h7]
      refine m_byteAt (hT.k hf) (by omega) (fun w => by omega) (fun _ => ?_)
      refine m_in (fun w => by omega) (fun _ => ⟨fun _ => ?_, fun w => absurd rfl w⟩)
      rw [h7, h8]
      exact ⟨⟨by omega, by omega⟩, f⟩
    | succ r ih =>
      intro q D2 hr q0 q1 hf h7 h8 h9 hk
      refine sX6_takesNumber_9 _ _ _ _ _ ?_
      simp only [tX6_takesNumber_9, w_ic, w_lc, w_lds, w_ild, w_lld, w_ald, w_ist, w_lst, w_ast, w_iinc, w_iadd, w_isub, w_imul, w_idiv, w_irem, w_iand, w_ior, w_ixor, w_ishl, w_ishr, w_iushr, w_ineg, w_ladd, w_lsub, w_lmul, w_ldiv, w_lrem, w_lcmp, w_i2l, w_l2i, w_dup, w_pop, w_dup2, w_ieq, w_zeq, w_ine, w_zne, w_ilt, w_zlt, w_ige, w_zge, w_igt, w_zgt, w_ile, w_zle, w_cut, w_tsw, zsw, w_iret, w_zret, w_lret, w_vret, w_nret, w_getI, w_getJ, w_getR, w_putI, w_putZ, w_putJ, w_iald, w_zald, w_iast, w_zast, w_alen, w_sI, w_sJ, w_sV, w_vI, w_vJ, w_vV, w_tI, w_mmax, w_mmin, w_mabs, w_lmax, w_acopy, gL, sL, kl_i, kl_l, kl_r, kl_s, kl_m, qI_i, qJ_l, qA_r, qA_s, pI_i, pJ_l, pA_r, pS_s, pM_m, pV_v, c1_i, c1_r, c1_s, c1_m, cS_0, cS_i, cS_l, cS_r, cS_s, cS_m, pN, z_rc_r, zE1, zE2, zE3, true_and, and_true, Nat.zero_add, Nat.reduceAdd, Nat.reduceLeDiff, true_or, or_true, Int.reduceLE, Int.reduceLT, zcmp_l, zcmp_g, zcmp_e, zcmp_le, mo, mf0, mz0, mf1, mz1, mf2, mz2, mf6, mz6, mf10, mz10, mf11, mz11, mf12, mz12, mf13, mz13, mf14, mz14, mf16, mz16, mf17, mz17, mf18, mz18, mf19, mz19, mi3, mi7, mi8, mi9, mi15, mi4, mi5, mi20, ma125, mn125, ma126, mn126, ma127, mn127, ma128, mn128, ma129, mn129, ma130, mn130, ma131, mn131, ma132, mn132, ma133, mn133, ma134, mn134, ma135, mn135, ma136, mn136, ma137, mn137]
      rw [h7]
      refine m_byteAt (hT.k hf) (by omega) (fun _ => ?_) (fun w => by omega)
      refine m_in (fun w => ⟨fun w2 => absurd w2 (by decide), fun _ => ?_⟩) (fun w => ⟨fun _ => ?_, fun w2 => absurd rfl w2⟩)
      · rw [h7, h8, h9]
        have hk' : ∀ k, tSt s p ≤ k → k < q + 1 → sTo (s 3 k) = 2 := fun k k0 k1 => by
          by_cases e : k = q
          · rw [e]; exact sTo_2i.mpr w
          · exact hk k k0 (by omega)
        have d0 : tSt s p < q → 48 ≤ s 3 (tSt s p) ∧ s 3 (tSt s p) ≤ 57 := fun g => sTo_2i.mp (hk _ (Int.le_refl _) g)
        refine ⟨⟨by omega, by omega⟩, fun g => ?_, fun g => ?_⟩
        · rw [zU_k (by decide), h7]
          refine ⟨⟨by omega, by omega⟩, ih (q + 1) _ (by omega) (by omega) (by omega) (hf.trans ((yK.up (by decide)).trans (yK.up (by decide)))) zU_s (by rw [zU_k (by decide), zU_k (by decide)]; exact h8) ?_ hk'⟩
          rw [zU_k (by decide), zU_s]
          unfold tNs
          rw [if_neg (by omega), if_neg (by omega), if_neg (by omega), if_neg (by omega)]
        · have nb : 0 ≤ tNs s (tSt s p) q ∧ tNs s (tSt s p) q ≤ 9 := by
            unfold tNs
            split
            · omega
            · have := d0 (by omega)
              rw [if_pos (by omega)]
              omega
          refine ⟨⟨by omega, by omega⟩, ?_⟩
          refine m_byteAt (hT.k hf) (by omega) (fun _ => ?_) (fun w => by omega)
          rw [zU_k (by decide), h7]
          refine ⟨⟨by omega, by omega⟩, ⟨by omega, by omega⟩, ⟨by omega, by omega⟩, ih (q + 1) _ (by omega) (by omega) (by omega) (hf.trans ((yK.up (by decide)).trans (yK.up (by decide)))) zU_s (by rw [zU_k (by decide), zU_k (by decide)]; exact h8) ?_ hk'⟩
          rw [zU_k (by decide), zU_s]
          by_cases e : q = tSt s p
          · unfold tNs
            rw [if_pos (by omega), if_neg (by omega), if_pos (by omega), e]
            omega
          · unfold tNs
            rw [if_neg (by omega), if_pos (by omega), if_neg (by omega), if_neg (by omega), show tSt s p + 1 = q by omega]
            omega
      · have f := fin q D2 q0 q1 hf h7 h8 h9 hk (fun w2 => w (sTo_2i.mp w2.2))
        rw [h7, h8]
        exact ⟨⟨by omega, by omega⟩, f⟩
  refine e_X6_takesNumber ?_
  simp only [tX6_takesNumber_0, w_ic, w_lc, w_lds, w_ild, w_lld, w_ald, w_ist, w_lst, w_ast, w_iinc, w_iadd, w_isub, w_imul, w_idiv, w_irem, w_iand, w_ior, w_ixor, w_ishl, w_ishr, w_iushr, w_ineg, w_ladd, w_lsub, w_lmul, w_ldiv, w_lrem, w_lcmp, w_i2l, w_l2i, w_dup, w_pop, w_dup2, w_ieq, w_zeq, w_ine, w_zne, w_ilt, w_zlt, w_ige, w_zge, w_igt, w_zgt, w_ile, w_zle, w_cut, w_tsw, zsw, w_iret, w_zret, w_lret, w_vret, w_nret, w_getI, w_getJ, w_getR, w_putI, w_putZ, w_putJ, w_iald, w_zald, w_iast, w_zast, w_alen, w_sI, w_sJ, w_sV, w_vI, w_vJ, w_vV, w_tI, w_mmax, w_mmin, w_mabs, w_lmax, w_acopy, gL, sL, kl_i, kl_l, kl_r, kl_s, kl_m, qI_i, qJ_l, qA_r, qA_s, pI_i, pJ_l, pA_r, pS_s, pM_m, pV_v, c1_i, c1_r, c1_s, c1_m, cS_0, cS_i, cS_l, cS_r, cS_s, cS_m, pN, z_rc_r, zE1, zE2, zE3, true_and, and_true, Nat.zero_add, Nat.reduceAdd, Nat.reduceLeDiff, true_or, or_true, Int.reduceLE, Int.reduceLT, zcmp_l, zcmp_g, zcmp_e, zcmp_le, mo, mf0, mz0, mf1, mz1, mf2, mz2, mf6, mz6, mf10, mz10, mf11, mz11, mf12, mz12, mf13, mz13, mf14, mz14, mf16, mz16, mf17, mz17, mf18, mz18, mf19, mz19, mi3, mi7, mi8, mi9, mi15, mi4, mi5, mi20, ma125, mn125, ma126, mn126, ma127, mn127, ma128, mn128, ma129, mn129, ma130, mn130, ma131, mn131, ma132, mn132, ma133, mn133, ma134, mn134, ma135, mn135, ma136, mn136, ma137, mn137]
  refine m_blanks hT hp p0 p1 fun D' f h7 h8 _ => ?_
  refine loop _ (tSt s p) _ rfl (Int.le_refl _) b.2.1 (f.trans (yK.up (by decide))) (by rw [zU_k (by decide)]; exact h7) (by rw [zU_k (by decide)]; exact h8) ?_ (fun k k0 k1 => by omega)
  rw [zU_s]
  unfold tNs
  rw [if_pos (by omega)]
theorem m_takesEnd {D s : Mem} {p : Int} {P : Int → Mem → Prop} (hT : yTx D s) (hp : D 124 7 = p) (p0 : 0 ≤ p) (p1 : p ≤ s 4 0) (h1 : tTo s p = 3 → ∀ D', yK D D' → D' 124 7 = tEn s p → D' 124 8 = tSt s p → P 1 D') (h0 : tTo s p ≠ 3 → ∀ D', yK D D' → D' 124 8 = tSt s p → P 0 D') : zC miX6_takesEnd [zr 124] D P := by
  have hl := hT.1.1
  have b := tSt_b hl p0 p1
  refine e_X6_takesEnd ?_
  simp only [tX6_takesEnd_0, w_ic, w_lc, w_lds, w_ild, w_lld, w_ald, w_ist, w_lst, w_ast, w_iinc, w_iadd, w_isub, w_imul, w_idiv, w_irem, w_iand, w_ior, w_ixor, w_ishl, w_ishr, w_iushr, w_ineg, w_ladd, w_lsub, w_lmul, w_ldiv, w_lrem, w_lcmp, w_i2l, w_l2i, w_dup, w_pop, w_dup2, w_ieq, w_zeq, w_ine, w_zne, w_ilt, w_zlt, w_ige, w_zge, w_igt, w_zgt, w_ile, w_zle, w_cut, w_tsw, zsw, w_iret, w_zret, w_lret, w_vret, w_nret, w_getI, w_getJ, w_getR, w_putI, w_putZ, w_putJ, w_iald, w_zald, w_iast, w_zast, w_alen, w_sI, w_sJ, w_sV, w_vI, w_vJ, w_vV, w_tI, w_mmax, w_mmin, w_mabs, w_lmax, w_acopy, gL, sL, kl_i, kl_l, kl_r, kl_s, kl_m, qI_i, qJ_l, qA_r, qA_s, pI_i, pJ_l, pA_r, pS_s, pM_m, pV_v, c1_i, c1_r, c1_s, c1_m, cS_0, cS_i, cS_l, cS_r, cS_s, cS_m, pN, z_rc_r, zE1, zE2, zE3, true_and, and_true, Nat.zero_add, Nat.reduceAdd, Nat.reduceLeDiff, true_or, or_true, Int.reduceLE, Int.reduceLT, zcmp_l, zcmp_g, zcmp_e, zcmp_le, mo, mf0, mz0, mf1, mz1, mf2, mz2, mf6, mz6, mf10, mz10, mf11, mz11, mf12, mz12, mf13, mz13, mf14, mz14, mf16, mz16, mf17, mz17, mf18, mz18, mf19, mz19, mi3, mi7, mi8, mi9, mi15, mi4, mi5, mi20, ma125, mn125, ma126, mn126, ma127, mn127, ma128, mn128, ma129, mn129, ma130, mn130, ma131, mn131, ma132, mn132, ma133, mn133, ma134, mn134, ma135, mn135, ma136, mn136, ma137, mn137]
  refine m_blanks hT hp p0 p1 fun D' f h7 h8 _ => ?_
  rw [zU_k (by decide), h7, h8]
  have f2 : yK D (zU D' 124 7 (tSt s p + 1)) := f.trans (yK.up (by decide))
  have g8 : zU D' 124 7 (tSt s p + 1) 124 8 = tSt s p := by rw [zU_k (by decide)]; exact h8
  refine ⟨⟨by omega, by omega⟩, m_byteAt (hT.k f2) (by omega) (fun q => ?_) (fun q => ?_)⟩
  · have e : tTo s p = sTo (s 3 (tSt s p)) := by unfold tTo; rw [if_neg (by omega)]
    refine ⟨fun w => h0 (fun w2 => w (sTo_3i.mp (by rw [← e]; exact w2))) _ f2 g8, fun w => ?_⟩
    have e3 : tTo s p = 3 := by rw [e]; exact sTo_3i.mpr (Decidable.not_not.mp w)
    refine h1 e3 _ f2 ?_ g8
    rw [zU_s]
    unfold tEn
    rw [if_neg (by omega), if_neg (by omega)]
  · have e : tTo s p = 0 := by unfold tTo; rw [if_pos q]
    exact ⟨fun _ => h0 (by omega) _ f2 g8, fun w => absurd (by decide) w⟩
