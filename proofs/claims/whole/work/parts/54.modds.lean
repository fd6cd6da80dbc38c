/-! ===== 54: the model: odds ===== -/
theorem oD_b {a : Int → Int} : ∀ n : Nat, 0 < oD a n ∧ oD a n ≤ 10 ^ n
  | 0 => ⟨show (0 : Int) < 1 by decide, show (1 : Int) ≤ 10 ^ 0 by decide⟩
  | n + 1 => by
    have ih := oD_b (a := a) n
    show 0 < oD a n * (if a (10 + n) = 1 then 10 else 1) ∧ oD a n * (if a (10 + n) = 1 then 10 else 1) ≤ 10 ^ (n + 1)
    rw [Int.pow_succ]
    split <;> omega
theorem oD_s {a : Int → Int} {n : Nat} : oD a (n + 1) = oD a n * (if a (10 + n) = 1 then 10 else 1) := rfl
def tA (a : Int → Int) (t : Int) (n : Nat) : Int → Int := fun j => if 10 ≤ j ∧ j < 10 + n ∧ a j = 1 ∧ zbt t (j - 10) = 1 then 0 else a j
theorem tA_n {a : Int → Int} {t j : Int} {n : Nat} (h : j < 10 ∨ 10 + (n : Int) ≤ j) : tA a t n j = a j := by
  unfold tA
  rw [if_neg (by omega)]
theorem tA_1 {a : Int → Int} {t k : Int} {n : Nat} (k0 : 0 ≤ k) (k1 : k < n) : tA a t n (10 + k) = 1 ↔ a (10 + k) = 1 ∧ zbt t k = 0 := by
  have hb := zbt_1 (x := t) (k := k)
  unfold tA
  rw [show 10 + k - 10 = k by omega]
  by_cases h : a (10 + k) = 1 ∧ zbt t k = 1
  · rw [if_pos ⟨by omega, by omega, h⟩]
    omega
  · rw [if_neg (fun w => h w.2.2)]
    omega
theorem tA_s {a : Int → Int} {t : Int} {n : Nat} : tA a t (n + 1) = if a (10 + n) = 1 then zA (tA a t n) (10 + n) (if zbt t n = 1 then 0 else 1) else tA a t n := by
  funext j
  by_cases hd : a (10 + n) = 1
  · rw [if_pos hd]
    unfold zA
    by_cases e : j = 10 + n
    · rw [if_pos e, e]
      unfold tA
      rw [show 10 + (n : Int) - 10 = n by omega]
      by_cases hz : zbt t n = 1
      · rw [if_pos hz, if_pos ⟨by omega, by omega, hd, hz⟩]
      · rw [if_neg hz, if_neg (fun w => hz w.2.2.2), hd]
    · rw [if_neg e]
      unfold tA
      by_cases h : 10 ≤ j ∧ j < 10 + (n : Int) ∧ a j = 1 ∧ zbt t (j - 10) = 1
      · rw [if_pos h, if_pos ⟨h.1, by omega, h.2.2⟩]
      · rw [if_neg h, if_neg (fun w => h ⟨w.1, by omega, w.2.2⟩)]
  · rw [if_neg hd]
    unfold tA
    by_cases h : 10 ≤ j ∧ j < 10 + (n : Int) ∧ a j = 1 ∧ zbt t (j - 10) = 1
    · rw [if_pos h, if_pos ⟨h.1, by omega, h.2.2⟩]
    · rw [if_neg h, if_neg (fun w => ?_)]
      by_cases e : j = 10 + n
      · rw [e] at w; exact hd w.2.2.1
      · exact h ⟨w.1, by omega, w.2.2⟩
theorem tA_rch {a : Int → Int} {t x y : Int} (n0 : 0 ≤ a 0 ∧ a 0 ≤ 6) (hw : ∀ k, 0 ≤ k → k < a 0 → 0 ≤ a (4 + k) ∧ a (4 + k) < 16) (hx : inC x) (hy : inC y) : sD (sOp (tA a t (a 0).toNat)) y x ≠ -1 ↔ oR a (min (x / 4) (y / 4)) (min (x / 4) (y / 4) + ((max (x / 4) (y / 4) - min (x / 4) (y / 4)).toNat : Int)) (a 0).toNat t (fun _ => False) := by
  have e1 := zRch_sd (op := sOp (tA a t (a 0).toNat)) (S := fun z => z = y) (c := x)
  have e2 := zRch_iff (op := sOp (tA a t (a 0).toNat)) (S := fun z => z = y) (F := y / 4) (s0 := y) (c := x) rfl hy (fun z hz => by rw [hz]) hx
  have e0 : tA a t (a 0).toNat 0 = a 0 := tA_n (Or.inl (by decide))
  show ¬ sd (adjO (sOp (tA a t (a 0).toNat))) (fun z => z = y) x = -1 ↔ _
  rw [e1, Classical.not_not, e2]
  constructor
  · intro w f f0 f1
    obtain ⟨z, hz, ⟨k, k0, k1, k2, k3⟩, hf⟩ := w f (by omega) (by omega)
    rw [e0] at k1
    rw [tA_n (Or.inl (by omega))] at k2
    have := (tA_1 k0 (by omega)).mp k3
    exact Or.inr ⟨k, k0, by omega, this.1, by rw [k2]; exact hf, this.2⟩
  · intro w f f0 f1
    rcases w f (by omega) (by omega) with q | ⟨k, k0, k1, k2, k3, k4⟩
    · exact q.elim
    · have hk := hw k k0 (by omega)
      exact ⟨a (4 + k), ⟨hk.1, by omega⟩, ⟨k, k0, by omega, tA_n (Or.inl (by omega)), (tA_1 k0 (by omega)).mpr ⟨k2, k4⟩⟩, k3⟩
theorem tA_wa {M : Int} {a : Int → Int} {t : Int} (h : WA M a) : ∀ n : Nat, (n : Int) ≤ a 0 → WA M (tA a t n)
  | 0, _ => by
    have e : tA a t 0 = a := by
      funext j
      exact tA_n (by omega)
    rw [e]; exact h
  | n + 1, hn => by
    have ih := tA_wa (t := t) h n (by omega)
    have n0 := h.n0
    rw [tA_s]
    split
    · refine sDraw_wa ih (by omega) (by rw [tA_n (Or.inl (by decide))]; omega) ?_
      split
      · exact Or.inl rfl
      · exact Or.inr rfl
    · exact ih
theorem yS.frac {D s : Mem} {x y : Int} (h : yS D s) : yS (zU (zU D 124 4 x) 124 5 y) (sU s 4 (zA (zA (s 4) 6 x) 7 y)) := by
  obtain ⟨h1, ⟨h2, h3⟩, h5, h6, h9, h12⟩ := h
  have n : ∀ j, j ≠ 6 → j ≠ 7 → zA (zA (s 4) 6 x) 7 y j = s 4 j := fun j q q2 => by rw [zA_n q2, zA_n q]
  refine ⟨?_, ⟨?_, ?_⟩, ?_⟩
  · rw [sU_n (by decide)]; exact (h1.o (by decide)).o (by decide)
  · rw [sU_n (by decide)]; exact (h2.o (by decide)).o (by decide)
  · rw [sU_n (by decide)]; exact (h3.o (by decide)).o (by decide)
  · have e : ∀ o, o ≠ 124 → zU (zU D 124 4 x) 124 5 y o = D o := fun o q => by rw [zU_ne q, zU_ne q]
    unfold yT
    rw [sU_s, sU_n (by decide), e 126 (by decide), e 127 (by decide), e 128 (by decide), n 0 (by decide) (by decide), n 1 (by decide) (by decide), n 2 (by decide) (by decide), n 3 (by decide) (by decide), n 4 (by decide) (by decide), n 5 (by decide) (by decide), zU_k (k' := 3) (by decide), zU_k (k' := 3) (by decide)]
    exact ⟨h5, h6, h9, by rw [zU_k (by decide), zU_s, zA_n (by decide), zA_s], by rw [zU_s, zA_s]⟩
theorem m_odds {n x y c : Int} {s : Mem} (hW : WS n s) (hn : n < 1000000) : mOK miX6_odds [zr 124, zi x, zi y, zi c] s (r_odds s x y c) := by
  intro D P hM hP
  have w := hW.1.1
  have h := hM.1
  have n0 := w.n0
  unfold r_odds at hP
  have bad : ¬ (inC x ∧ inC y ∧ 0 ≤ c ∧ c ≤ 10) → zC miX6_bad [zr 124, zi (-2)] D P := by
    intro q
    rw [cIf_f q] at hP
    exact m_bad hM hW hn hP
  refine e_X6_odds ?_
  simp only [tX6_odds_0, w_ic, w_lc, w_lds, w_ild, w_lld, w_ald, w_ist, w_lst, w_ast, w_iinc, w_iadd, w_isub, w_imul, w_idiv, w_irem, w_iand, w_ior, w_ixor, w_ishl, w_ishr, w_iushr, w_ineg, w_ladd, w_lsub, w_lmul, w_ldiv, w_lrem, w_lcmp, w_i2l, w_l2i, w_dup, w_pop, w_dup2, w_ieq, w_zeq, w_ine, w_zne, w_ilt, w_zlt, w_ige, w_zge, w_igt, w_zgt, w_ile, w_zle, w_cut, w_tsw, zsw, w_iret, w_zret, w_lret, w_vret, w_nret, w_getI, w_getJ, w_getR, w_putI, w_putZ, w_putJ, w_iald, w_zald, w_iast, w_zast, w_alen, w_sI, w_sJ, w_sV, w_vI, w_vJ, w_vV, w_tI, w_mmax, w_mmin, w_mabs, w_lmax, w_acopy, gL, sL, kl_i, kl_l, kl_r, kl_s, kl_m, qI_i, qJ_l, qA_r, qA_s, pI_i, pJ_l, pA_r, pS_s, pM_m, pV_v, c1_i, c1_r, c1_s, c1_m, cS_0, cS_i, cS_l, cS_r, cS_s, cS_m, pN, z_rc_r, zE1, zE2, zE3, true_and, and_true, Nat.zero_add, Nat.reduceAdd, Nat.reduceLeDiff, true_or, or_true, Int.reduceLE, Int.reduceLT, zcmp_l, zcmp_g, zcmp_e, zcmp_le, mo, mf0, mz0, mf1, mz1, mf2, mz2, mf6, mz6, mf10, mz10, mf11, mz11, mf12, mz12, mf13, mz13, mf14, mz14, mf16, mz16, mf17, mz17, mf18, mz18, mf19, mz19, mi3, mi7, mi8, mi9, mi15, mi4, mi5, mi20, ma125, mn125, ma126, mn126, ma127, mn127, ma128, mn128, ma129, mn129, ma130, mn130, ma131, mn131, ma132, mn132, ma133, mn133, ma134, mn134, ma135, mn135, ma136, mn136, ma137, mn137]
  refine m_isCell (fun q => ⟨fun w => absurd w (by decide), fun _ => ?_⟩) (fun q => ⟨fun _ => bad fun w => q w.1, fun w => absurd rfl w⟩)
  refine m_isCell (fun q2 => ⟨fun w => absurd w (by decide), fun _ => ?_⟩) (fun q2 => ⟨fun _ => bad fun w => q2 w.2.1, fun w => absurd rfl w⟩)
  refine m_in (fun q3 => ⟨fun _ => ?_, fun w => absurd (by decide) w⟩) (fun q3 => ⟨fun w => absurd rfl w, fun _ => bad fun w => q3 w.2.2⟩)
  rw [cIf_t ⟨q, q2, q3⟩] at hP
  have x0 := q.1
  have x1 := q.2
  have both := odd_both (a := s 0) (lo := min (x / 4) (y / 4)) (c := c) (max (x / 4) (y / 4) - min (x / 4) (y / 4)).toNat
  have sb := sOdd_b (a := s 0) (lo := min (x / 4) (y / 4)) n0 q3.1 q3.2 (max (x / 4) (y / 4) - min (x / 4) (y / 4)).toNat
  have s6 := sOdd_6 (a := s 0) (lo := min (x / 4) (y / 4)) n0 q3.1 q3.2 (max (x / 4) (y / 4) - min (x / 4) (y / 4)).toNat
  have op := oO_pos (a := s 0) (lo := min (x / 4) (y / 4)) (hi := min (x / 4) (y / 4) + ((max (x / 4) (y / 4) - min (x / 4) (y / 4)).toNat : Int)) (s 0 0).toNat
  have gf := gg_frac op sb.1 s6.1
  rw [← both.1, ← both.2] at gf
  have fin : ∀ D1, yF D D1 → P 1 (zU (zU D1 124 4 (oT (s 0) c (min (x / 4) (y / 4)) (min (x / 4) (y / 4) + ((max (x / 4) (y / 4) - min (x / 4) (y / 4)).toNat : Int)) (s 0 0).toNat (fun _ => False) / gg (oT (s 0) c (min (x / 4) (y / 4)) (min (x / 4) (y / 4) + ((max (x / 4) (y / 4) - min (x / 4) (y / 4)).toNat : Int)) (s 0 0).toNat (fun _ => False)) (oD (s 0) (s 0 0).toNat))) 124 5 (oD (s 0) (s 0 0).toNat / gg (oT (s 0) c (min (x / 4) (y / 4)) (min (x / 4) (y / 4) + ((max (x / 4) (y / 4) - min (x / 4) (y / 4)).toNat : Int)) (s 0 0).toNat (fun _ => False)) (oD (s 0) (s 0 0).toNat))) := by
    intro D1 hf
    rw [gf.1, gf.2.1]
    exact hP _ (hf.fr.trans ((Fr.up (by omega) (by omega)).trans (Fr.up (by omega) (by omega)))) (hM.s hf).frac
  have oTn : 0 ≤ oT (s 0) c (min (x / 4) (y / 4)) (min (x / 4) (y / 4) + ((max (x / 4) (y / 4) - min (x / 4) (y / 4)).toNat : Int)) (s 0 0).toNat (fun _ => False) := by
    rw [both.1]
    exact Int.mul_nonneg (by omega) sb.1
  have gp := gf.2.2
  generalize hT : oT (s 0) c (min (x / 4) (y / 4)) (min (x / 4) (y / 4) + ((max (x / 4) (y / 4) - min (x / 4) (y / 4)).toNat : Int)) (s 0 0).toNat (fun _ => False) = T at fin oTn gp
  have db := oD_b (a := s 0) (s 0 0).toNat
  have l267 : ∀ (r : Nat) (u v : Int) (v12 v13 : AV) (D1 : Mem), v.toNat = r → 0 ≤ u → 0 ≤ v → yF D D1 → gg u v = gg T (oD (s 0) (s 0 0).toNat) → zW miX6_odds P 267 [zr 124, zi x, zi y, zi c, zl T, zm 1, zl (oD (s 0) (s 0 0).toNat), zm 1, zl u, zm 1, zl v, zm 1, v12, v13] D1 := by
    intro r
    induction r using Nat.strongRecOn with
    | _ r ih =>
    intro u v v12 v13 D1 hr u0 v0 hf hg
    refine sX6_odds_267 _ _ _ _ _ ?_
    simp only [tX6_odds_267, w_ic, w_lc, w_lds, w_ild, w_lld, w_ald, w_ist, w_lst, w_ast, w_iinc, w_iadd, w_isub, w_imul, w_idiv, w_irem, w_iand, w_ior, w_ixor, w_ishl, w_ishr, w_iushr, w_ineg, w_ladd, w_lsub, w_lmul, w_ldiv, w_lrem, w_lcmp, w_i2l, w_l2i, w_dup, w_pop, w_dup2, w_ieq, w_zeq, w_ine, w_zne, w_ilt, w_zlt, w_ige, w_zge, w_igt, w_zgt, w_ile, w_zle, w_cut, w_tsw, zsw, w_iret, w_zret, w_lret, w_vret, w_nret, w_getI, w_getJ, w_getR, w_putI, w_putZ, w_putJ, w_iald, w_zald, w_iast, w_zast, w_alen, w_sI, w_sJ, w_sV, w_vI, w_vJ, w_vV, w_tI, w_mmax, w_mmin, w_mabs, w_lmax, w_acopy, gL, sL, kl_i, kl_l, kl_r, kl_s, kl_m, qI_i, qJ_l, qA_r, qA_s, pI_i, pJ_l, pA_r, pS_s, pM_m, pV_v, c1_i, c1_r, c1_s, c1_m, cS_0, cS_i, cS_l, cS_r, cS_s, cS_m, pN, z_rc_r, zE1, zE2, zE3, true_and, and_true, Nat.zero_add, Nat.reduceAdd, Nat.reduceLeDiff, true_or, or_true, Int.reduceLE, Int.reduceLT, zcmp_l, zcmp_g, zcmp_e, zcmp_le, mo, mf0, mz0, mf1, mz1, mf2, mz2, mf6, mz6, mf10, mz10, mf11, mz11, mf12, mz12, mf13, mz13, mf14, mz14, mf16, mz16, mf17, mz17, mf18, mz18, mf19, mz19, mi3, mi7, mi8, mi9, mi15, mi4, mi5, mi20, ma125, mn125, ma126, mn126, ma127, mn127, ma128, mn128, ma129, mn129, ma130, mn130, ma131, mn131, ma132, mn132, ma133, mn133, ma134, mn134, ma135, mn135, ma136, mn136, ma137, mn137]
    refine ⟨fun e => ?_, fun e => ?_⟩
    · rw [e, gg_0 u0] at hg
      rw [hg]
      exact ⟨⟨oTn, gp⟩, ⟨by omega, gp⟩, fin D1 hf⟩
    · have vp : 0 < v := by omega
      have m0 := Int.emod_nonneg u (show v ≠ 0 by omega)
      have m1 := Int.emod_lt_of_pos u vp
      exact ⟨⟨u0, vp⟩, ih (u % v).toNat (by omega) v (u % v) _ _ D1 rfl v0 m0 hf ((gg_s u0 vp).trans hg)⟩
  have p6 := p10_le (s 0 0).toNat (by omega)
  have pn : (2 : Int) ^ (s 0 0).toNat ≤ 64 := (by decide : ∀ n : Nat, n < 7 → (2 : Int) ^ n ≤ 64) _ (by omega)
  have l88 : ∀ (r : Nat) (t : Int) (v9 v10 v11 v12 v13 : AV) (D1 : Mem), (2 ^ (s 0 0).toNat - t).toNat = r → 0 ≤ t → t ≤ 2 ^ (s 0 0).toNat → yF D D1 → zW miX6_odds P 88 [zr 124, zi x, zi y, zi c, zl (zsum t.toNat (fun t => cIf (oR (s 0) (min (x / 4) (y / 4)) (min (x / 4) (y / 4) + ((max (x / 4) (y / 4) - min (x / 4) (y / 4)).toNat : Int)) (s 0 0).toNat t (fun _ => False)) (oW (s 0) c (s 0 0).toNat t) 0)), zm 1, zl (oD (s 0) (s 0 0).toNat), zm 1, zi t, v9, v10, v11, v12, v13] D1 := by
    intro r
    have eL : bL 1 (s 0 0) = 2 ^ (s 0 0).toNat := by
      have h1 : (2 : Nat) ^ (s 0 0).toNat ≤ 64 := by rw [← zp2] at pn; omega
      have := bL_n (x := 1) (k := (s 0 0).toNat) (by omega) (by omega)
      rw [Nat.one_mul, zp2, show (((s 0 0).toNat : Nat) : Int) = s 0 0 by omega] at this
      exact this
    induction r with
    | zero =>
      intro t v9 v10 v11 v12 v13 D1 hr t0 t1 hf
      have h1 := (hM.s hf).1
      have et : t.toNat = 2 ^ (s 0 0).toNat := by
        have : t = ((2 ^ (s 0 0).toNat : Nat) : Int) := by rw [zp2]; omega
        rw [this, Int.toNat_natCast]
      have eT : zsum t.toNat (fun t => cIf (oR (s 0) (min (x / 4) (y / 4)) (min (x / 4) (y / 4) + ((max (x / 4) (y / 4) - min (x / 4) (y / 4)).toNat : Int)) (s 0 0).toNat t (fun _ => False)) (oW (s 0) c (s 0 0).toNat t) 0) = T := by
        rw [et, ← hT]
        rfl
      rw [eT]
      refine sX6_odds_88 _ _ _ _ _ ?_
      simp only [tX6_odds_88, w_ic, w_lc, w_lds, w_ild, w_lld, w_ald, w_ist, w_lst, w_ast, w_iinc, w_iadd, w_isub, w_imul, w_idiv, w_irem, w_iand, w_ior, w_ixor, w_ishl, w_ishr, w_iushr, w_ineg, w_ladd, w_lsub, w_lmul, w_ldiv, w_lrem, w_lcmp, w_i2l, w_l2i, w_dup, w_pop, w_dup2, w_ieq, w_zeq, w_ine, w_zne, w_ilt, w_zlt, w_ige, w_zge, w_igt, w_zgt, w_ile, w_zle, w_cut, w_tsw, zsw, w_iret, w_zret, w_lret, w_vret, w_nret, w_getI, w_getJ, w_getR, w_putI, w_putZ, w_putJ, w_iald, w_zald, w_iast, w_zast, w_alen, w_sI, w_sJ, w_sV, w_vI, w_vJ, w_vV, w_tI, w_mmax, w_mmin, w_mabs, w_lmax, w_acopy, gL, sL, kl_i, kl_l, kl_r, kl_s, kl_m, qI_i, qJ_l, qA_r, qA_s, pI_i, pJ_l, pA_r, pS_s, pM_m, pV_v, c1_i, c1_r, c1_s, c1_m, cS_0, cS_i, cS_l, cS_r, cS_s, cS_m, pN, z_rc_r, zE1, zE2, zE3, true_and, and_true, Nat.zero_add, Nat.reduceAdd, Nat.reduceLeDiff, true_or, or_true, Int.reduceLE, Int.reduceLT, zcmp_l, zcmp_g, zcmp_e, zcmp_le, mo, mf0, mz0, mf1, mz1, mf2, mz2, mf6, mz6, mf10, mz10, mf11, mz11, mf12, mz12, mf13, mz13, mf14, mz14, mf16, mz16, mf17, mz17, mf18, mz18, mf19, mz19, mi3, mi7, mi8, mi9, mi15, mi4, mi5, mi20, ma125, mn125, ma126, mn126, ma127, mn127, ma128, mn128, ma129, mn129, ma130, mn130, ma131, mn131, ma132, mn132, ma133, mn133, ma134, mn134, ma135, mn135, ma136, mn136, ma137, mn137]
      rw [h1.z (by omega) (by omega), eL]
      exact ⟨fun _ => l267 _ T _ _ _ D1 rfl oTn (by omega) hf rfl, fun w => absurd (by omega) w⟩
    | succ r ih =>
      intro t v9 v10 v11 v12 v13 D1 hr t0 t1 hf
      have h1 := (hM.s hf).1
      have nx := fun v9 v10 v11 v12 v13 D2 g => ih (t + 1) v9 v10 v11 v12 v13 D2 (by omega) (by omega) (by omega) g
      rw [zsum_s t0] at nx
      have zb := zsum_b (f := fun t => cIf (oR (s 0) (min (x / 4) (y / 4)) (min (x / 4) (y / 4) + ((max (x / 4) (y / 4) - min (x / 4) (y / 4)).toNat : Int)) (s 0 0).toNat t (fun _ => False)) (oW (s 0) c (s 0 0).toNat t) 0) (m := 1000000) t.toNat (fun k _ _ => by
        have := oW_b (a := s 0) (t := k) q3.1 q3.2 (s 0 0).toNat
        by_cases g : oR (s 0) (min (x / 4) (y / 4)) (min (x / 4) (y / 4) + ((max (x / 4) (y / 4) - min (x / 4) (y / 4)).toNat : Int)) (s 0 0).toNat k (fun _ => False)
        · rw [cIf_t g]; omega
        · rw [cIf_f g]; omega)
      have wb := oW_b (a := s 0) (t := t) q3.1 q3.2 (s 0 0).toNat
      have hrch := tA_rch (a := s 0) (t := t) (x := x) (y := y) n0 (fun k k0 k1 => (w.2.1 k k0 k1).1) q q2
      generalize hZ : zsum t.toNat (fun t => cIf (oR (s 0) (min (x / 4) (y / 4)) (min (x / 4) (y / 4) + ((max (x / 4) (y / 4) - min (x / 4) (y / 4)).toNat : Int)) (s 0 0).toNat t (fun _ => False)) (oW (s 0) c (s 0 0).toNat t) 0) = Z at nx zb ⊢
      have l111 : ∀ (rr k : Nat) (v12 v13 : AV) (D2 : Mem), (s 0 0).toNat - k = rr → k ≤ (s 0 0).toNat → yF D D2 → yQ D2 1092 (tA (s 0) t k) → zW miX6_odds P 111 [zr 124, zi x, zi y, zi c, zl Z, zm 1, zl (oD (s 0) (s 0 0).toNat), zm 1, zi t, zl (oW (s 0) c k t), zm 1, zi k, v12, v13] D2 := by
        intro rr
        induction rr with
        | zero =>
          intro k v12 v13 D2 hrr hk hf2 hq2
          have h2 := (hM.s hf2).1
          have ek : k = (s 0 0).toNat := by omega
          subst ek
          refine sX6_odds_111 _ _ _ _ _ ?_
          simp only [tX6_odds_111, w_ic, w_lc, w_lds, w_ild, w_lld, w_ald, w_ist, w_lst, w_ast, w_iinc, w_iadd, w_isub, w_imul, w_idiv, w_irem, w_iand, w_ior, w_ixor, w_ishl, w_ishr, w_iushr, w_ineg, w_ladd, w_lsub, w_lmul, w_ldiv, w_lrem, w_lcmp, w_i2l, w_l2i, w_dup, w_pop, w_dup2, w_ieq, w_zeq, w_ine, w_zne, w_ilt, w_zlt, w_ige, w_zge, w_igt, w_zgt, w_ile, w_zle, w_cut, w_tsw, zsw, w_iret, w_zret, w_lret, w_vret, w_nret, w_getI, w_getJ, w_getR, w_putI, w_putZ, w_putJ, w_iald, w_zald, w_iast, w_zast, w_alen, w_sI, w_sJ, w_sV, w_vI, w_vJ, w_vV, w_tI, w_mmax, w_mmin, w_mabs, w_lmax, w_acopy, gL, sL, kl_i, kl_l, kl_r, kl_s, kl_m, qI_i, qJ_l, qA_r, qA_s, pI_i, pJ_l, pA_r, pS_s, pM_m, pV_v, c1_i, c1_r, c1_s, c1_m, cS_0, cS_i, cS_l, cS_r, cS_s, cS_m, pN, z_rc_r, zE1, zE2, zE3, true_and, and_true, Nat.zero_add, Nat.reduceAdd, Nat.reduceLeDiff, true_or, or_true, Int.reduceLE, Int.reduceLT, zcmp_l, zcmp_g, zcmp_e, zcmp_le, mo, mf0, mz0, mf1, mz1, mf2, mz2, mf6, mz6, mf10, mz10, mf11, mz11, mf12, mz12, mf13, mz13, mf14, mz14, mf16, mz16, mf17, mz17, mf18, mz18, mf19, mz19, mi3, mi7, mi8, mi9, mi15, mi4, mi5, mi20, ma125, mn125, ma126, mn126, ma127, mn127, ma128, mn128, ma129, mn129, ma130, mn130, ma131, mn131, ma132, mn132, ma133, mn133, ma134, mn134, ma135, mn135, ma136, mn136, ma137, mn137]
          rw [h2.z (by omega) (by omega)]
          refine ⟨fun _ => ⟨fun g => ?_, fun g => ?_⟩, fun w => absurd (by omega) w⟩
          · have e0 : cIf (oR (s 0) (min (x / 4) (y / 4)) (min (x / 4) (y / 4) + ((max (x / 4) (y / 4) - min (x / 4) (y / 4)).toNat : Int)) (s 0 0).toNat t (fun _ => False)) (oW (s 0) c (s 0 0).toNat t) 0 = 0 := by
              have : oW (s 0) c (s 0 0).toNat t = 0 := by omega
              rw [this]
              by_cases g2 : oR (s 0) (min (x / 4) (y / 4)) (min (x / 4) (y / 4) + ((max (x / 4) (y / 4) - min (x / 4) (y / 4)).toNat : Int)) (s 0 0).toNat t (fun _ => False)
              · rw [cIf_t g2]
              · rw [cIf_f g2]
            rw [e0, Int.add_zero] at nx
            exact ⟨⟨by omega, by omega⟩, nx _ _ _ _ _ D2 hf2⟩
          · have e00 : tA (s 0) t (s 0 0).toNat 0 = s 0 0 := tA_n (Or.inl (by decide))
            refine m_laysAway (S := fun z => z = y) (Or.inr (Or.inr rfl)) hq2 (by rw [e00]; exact n0) (fun z _ => ⟨fun w => Or.inr ⟨q2.1, w⟩, fun w => w.elim (fun w => by have := q2.1; omega) fun w => w.2⟩) fun D3 f3 he => ?_
            obtain ⟨e1, e2, e3⟩ := he x q
            have ed : sd (adjO (sOp (tA (s 0) t (s 0 0).toNat))) (fun z => z = y) x = sD (sOp (tA (s 0) t (s 0 0).toNat)) y x := rfl
            rw [ed] at e1 e2 e3
            rw [e1]
            have f4 := hf2.trans f3.s
            refine ⟨x0, by omega, fun g2 => ?_, fun g2 => ?_⟩
            · have hno : ¬ oR (s 0) (min (x / 4) (y / 4)) (min (x / 4) (y / 4) + ((max (x / 4) (y / 4) - min (x / 4) (y / 4)).toNat : Int)) (s 0 0).toNat t (fun _ => False) := fun w => by
                have := hrch.mpr w
                unfold zFar at g2
                rw [if_neg this] at g2
                omega
              rw [cIf_f hno] at nx
              rw [z64_id (show zR6 (Z + 0) from ⟨by omega, by omega⟩)]
              exact ⟨⟨by omega, by omega⟩, nx _ _ _ _ _ D3 f4⟩
            · have hyes : oR (s 0) (min (x / 4) (y / 4)) (min (x / 4) (y / 4) + ((max (x / 4) (y / 4) - min (x / 4) (y / 4)).toNat : Int)) (s 0 0).toNat t (fun _ => False) := hrch.mp fun w => by
                unfold zFar at g2
                rw [if_pos w] at g2
                exact g2 (by decide)
              rw [cIf_t hyes] at nx
              rw [z64_id (show zR6 (Z + oW (s 0) c (s 0 0).toNat t) from ⟨by omega, by omega⟩)]
              exact ⟨⟨by omega, by omega⟩, nx _ _ _ _ _ D3 f4⟩
        | succ rr ihr =>
          intro k v12 v13 D2 hrr hk hf2 hq2
          have h2 := (hM.s hf2).1
          have wk := oW_b (a := s 0) (t := t) q3.1 q3.2 k
          have wk1 := oW_b (a := s 0) (t := t) q3.1 q3.2 (k + 1)
          have p7 := p10_le (k + 1) (by omega)
          have p8 := p10_le k (by omega)
          have nk := fun v12 v13 D3 g1 g2 => ihr (k + 1) v12 v13 D3 (by omega) (by omega) g1 g2
          rw [oW_s, tA_s] at nk
          rw [oW_s] at wk1
          have hz := zbt_1 (x := t) (k := (k : Int))
          by_cases hd : s 0 (10 + k) = 1
          · rw [if_pos hd] at nk wk1
            rw [if_pos hd] at nk
            refine sX6_odds_111 _ _ _ _ _ ?_
            simp only [tX6_odds_111, w_ic, w_lc, w_lds, w_ild, w_lld, w_ald, w_ist, w_lst, w_ast, w_iinc, w_iadd, w_isub, w_imul, w_idiv, w_irem, w_iand, w_ior, w_ixor, w_ishl, w_ishr, w_iushr, w_ineg, w_ladd, w_lsub, w_lmul, w_ldiv, w_lrem, w_lcmp, w_i2l, w_l2i, w_dup, w_pop, w_dup2, w_ieq, w_zeq, w_ine, w_zne, w_ilt, w_zlt, w_ige, w_zge, w_igt, w_zgt, w_ile, w_zle, w_cut, w_tsw, zsw, w_iret, w_zret, w_lret, w_vret, w_nret, w_getI, w_getJ, w_getR, w_putI, w_putZ, w_putJ, w_iald, w_zald, w_iast, w_zast, w_alen, w_sI, w_sJ, w_sV, w_vI, w_vJ, w_vV, w_tI, w_mmax, w_mmin, w_mabs, w_lmax, w_acopy, gL, sL, kl_i, kl_l, kl_r, kl_s, kl_m, qI_i, qJ_l, qA_r, qA_s, pI_i, pJ_l, pA_r, pS_s, pM_m, pV_v, c1_i, c1_r, c1_s, c1_m, cS_0, cS_i, cS_l, cS_r, cS_s, cS_m, pN, z_rc_r, zE1, zE2, zE3, true_and, and_true, Nat.zero_add, Nat.reduceAdd, Nat.reduceLeDiff, true_or, or_true, Int.reduceLE, Int.reduceLT, zcmp_l, zcmp_g, zcmp_e, zcmp_le, mo, mf0, mz0, mf1, mz1, mf2, mz2, mf6, mz6, mf10, mz10, mf11, mz11, mf12, mz12, mf13, mz13, mf14, mz14, mf16, mz16, mf17, mz17, mf18, mz18, mf19, mz19, mi3, mi7, mi8, mi9, mi15, mi4, mi5, mi20, ma125, mn125, ma126, mn126, ma127, mn127, ma128, mn128, ma129, mn129, ma130, mn130, ma131, mn131, ma132, mn132, ma133, mn133, ma134, mn134, ma135, mn135, ma136, mn136, ma137, mn137]
            rw [h2.z (by omega) (by omega), h2.z (j := 10 + k) (by omega) (by omega)]
            refine ⟨fun w => absurd w (by omega), fun _ => ?_⟩
            repeat' (with_reducible apply And.intro)
            all_goals first | omega | exact ⟨by omega, by omega⟩ | skip
            intro _
            have e1102 : (1102 : Int) + k = 1092 + (10 + k) := by omega
            refine m_has t0 (by omega) (by omega) (by omega) (fun g => ⟨fun w => absurd w (by decide), fun _ => ?_⟩) (fun g => ⟨fun _ => ?_, fun w => absurd rfl w⟩)
            · rw [if_pos g] at nk wk1
              rw [if_pos g] at nk
              rw [z64_id (show zR6 (oW (s 0) c k t * c) from ⟨by omega, by omega⟩)]
              repeat' (with_reducible apply And.intro)
              all_goals first | omega | exact ⟨by omega, by omega⟩ | skip
              refine m_has t0 (by omega) (by omega) (by omega) (fun g2 => ⟨fun w => absurd w (by decide), fun _ => ?_⟩) (fun g2 => by omega)
              repeat' (with_reducible apply And.intro)
              all_goals first | omega | exact ⟨by omega, by omega⟩ | skip
              exact nk _ _ _ (hf2.trans (yF.u5 (by omega))) (hq2.up e1102)
            · rw [if_neg (by omega)] at nk wk1
              rw [if_neg (by omega)] at nk
              rw [z64_id (show zR6 (oW (s 0) c k t * (10 - c)) from ⟨by omega, by omega⟩)]
              repeat' (with_reducible apply And.intro)
              all_goals first | omega | exact ⟨by omega, by omega⟩ | skip
              refine m_has t0 (by omega) (by omega) (by omega) (fun g2 => by omega) (fun g2 => ⟨fun _ => ?_, fun w => absurd rfl w⟩)
              repeat' (with_reducible apply And.intro)
              all_goals first | omega | exact ⟨by omega, by omega⟩ | skip
              exact nk _ _ _ (hf2.trans (yF.u5 (by omega))) (hq2.up e1102)
          · rw [if_neg hd] at nk wk1
            rw [if_neg hd] at nk
            refine sX6_odds_111 _ _ _ _ _ ?_
            simp only [tX6_odds_111, w_ic, w_lc, w_lds, w_ild, w_lld, w_ald, w_ist, w_lst, w_ast, w_iinc, w_iadd, w_isub, w_imul, w_idiv, w_irem, w_iand, w_ior, w_ixor, w_ishl, w_ishr, w_iushr, w_ineg, w_ladd, w_lsub, w_lmul, w_ldiv, w_lrem, w_lcmp, w_i2l, w_l2i, w_dup, w_pop, w_dup2, w_ieq, w_zeq, w_ine, w_zne, w_ilt, w_zlt, w_ige, w_zge, w_igt, w_zgt, w_ile, w_zle, w_cut, w_tsw, zsw, w_iret, w_zret, w_lret, w_vret, w_nret, w_getI, w_getJ, w_getR, w_putI, w_putZ, w_putJ, w_iald, w_zald, w_iast, w_zast, w_alen, w_sI, w_sJ, w_sV, w_vI, w_vJ, w_vV, w_tI, w_mmax, w_mmin, w_mabs, w_lmax, w_acopy, gL, sL, kl_i, kl_l, kl_r, kl_s, kl_m, qI_i, qJ_l, qA_r, qA_s, pI_i, pJ_l, pA_r, pS_s, pM_m, pV_v, c1_i, c1_r, c1_s, c1_m, cS_0, cS_i, cS_l, cS_r, cS_s, cS_m, pN, z_rc_r, zE1, zE2, zE3, true_and, and_true, Nat.zero_add, Nat.reduceAdd, Nat.reduceLeDiff, true_or, or_true, Int.reduceLE, Int.reduceLT, zcmp_l, zcmp_g, zcmp_e, zcmp_le, mo, mf0, mz0, mf1, mz1, mf2, mz2, mf6, mz6, mf10, mz10, mf11, mz11, mf12, mz12, mf13, mz13, mf14, mz14, mf16, mz16, mf17, mz17, mf18, mz18, mf19, mz19, mi3, mi7, mi8, mi9, mi15, mi4, mi5, mi20, ma125, mn125, ma126, mn126, ma127, mn127, ma128, mn128, ma129, mn129, ma130, mn130, ma131, mn131, ma132, mn132, ma133, mn133, ma134, mn134, ma135, mn135, ma136, mn136, ma137, mn137]
            rw [h2.z (by omega) (by omega), h2.z (j := 10 + k) (by omega) (by omega)]
            refine ⟨fun w => absurd w (by omega), fun _ => ?_⟩
            repeat' (with_reducible apply And.intro)
            all_goals first | omega | exact ⟨by omega, by omega⟩ | skip
            intro _
            refine m_has t0 (by omega) (by omega) (by omega) (fun g => ⟨fun w => absurd w (by decide), fun _ => ?_⟩) (fun g => ⟨fun _ => ?_, fun w => absurd rfl w⟩)
            · rw [if_pos g] at nk wk1
              rw [z64_id (show zR6 (oW (s 0) c k t * 0) from ⟨by omega, by omega⟩)]
              exact ⟨⟨by omega, by omega⟩, nk _ _ _ hf2 hq2⟩
            · rw [if_neg (by omega)] at nk wk1
              rw [z64_id (show zR6 (oW (s 0) c k t * 1) from ⟨by omega, by omega⟩)]
              exact ⟨⟨by omega, by omega⟩, nk _ _ _ hf2 hq2⟩
      refine sX6_odds_88 _ _ _ _ _ ?_
      simp only [tX6_odds_88, w_ic, w_lc, w_lds, w_ild, w_lld, w_ald, w_ist, w_lst, w_ast, w_iinc, w_iadd, w_isub, w_imul, w_idiv, w_irem, w_iand, w_ior, w_ixor, w_ishl, w_ishr, w_iushr, w_ineg, w_ladd, w_lsub, w_lmul, w_ldiv, w_lrem, w_lcmp, w_i2l, w_l2i, w_dup, w_pop, w_dup2, w_ieq, w_zeq, w_ine, w_zne, w_ilt, w_zlt, w_ige, w_zge, w_igt, w_zgt, w_ile, w_zle, w_cut, w_tsw, zsw, w_iret, w_zret, w_lret, w_vret, w_nret, w_getI, w_getJ, w_getR, w_putI, w_putZ, w_putJ, w_iald, w_zald, w_iast, w_zast, w_alen, w_sI, w_sJ, w_sV, w_vI, w_vJ, w_vV, w_tI, w_mmax, w_mmin, w_mabs, w_lmax, w_acopy, gL, sL, kl_i, kl_l, kl_r, kl_s, kl_m, qI_i, qJ_l, qA_r, qA_s, pI_i, pJ_l, pA_r, pS_s, pM_m, pV_v, c1_i, c1_r, c1_s, c1_m, cS_0, cS_i, cS_l, cS_r, cS_s, cS_m, pN, z_rc_r, zE1, zE2, zE3, true_and, and_true, Nat.zero_add, Nat.reduceAdd, Nat.reduceLeDiff, true_or, or_true, Int.reduceLE, Int.reduceLT, zcmp_l, zcmp_g, zcmp_e, zcmp_le, mo, mf0, mz0, mf1, mz1, mf2, mz2, mf6, mz6, mf10, mz10, mf11, mz11, mf12, mz12, mf13, mz13, mf14, mz14, mf16, mz16, mf17, mz17, mf18, mz18, mf19, mz19, mi3, mi7, mi8, mi9, mi15, mi4, mi5, mi20, ma125, mn125, ma126, mn126, ma127, mn127, ma128, mn128, ma129, mn129, ma130, mn130, ma131, mn131, ma132, mn132, ma133, mn133, ma134, mn134, ma135, mn135, ma136, mn136, ma137, mn137]
      rw [h1.z (by omega) (by omega), eL]
      refine ⟨fun w => absurd w (by omega), fun _ => ?_⟩
      have eA : tA (s 0) t 0 = s 0 := by funext j; exact tA_n (by omega)
      exact m_tries h1 fun D2 g1 g2 q2' => l111 _ 0 _ _ D2 rfl (by omega) (hf.trans (yF.of5 g1 g2)) (by rw [eA]; exact q2')
  have l42 : ∀ (r k : Nat) (v9 v10 v11 v12 v13 : AV), (s 0 0).toNat - k = r → k ≤ (s 0 0).toNat → zW miX6_odds P 42 [zr 124, zi x, zi y, zi c, zl 0, zm 1, zl (oD (s 0) k), zm 1, zi k, v9, v10, v11, v12, v13] D := by
    intro r
    induction r with
    | zero =>
      intro k v9 v10 v11 v12 v13 hr hk
      have ek : k = (s 0 0).toNat := by omega
      subst ek
      refine sX6_odds_42 _ _ _ _ _ ?_
      simp only [tX6_odds_42, w_ic, w_lc, w_lds, w_ild, w_lld, w_ald, w_ist, w_lst, w_ast, w_iinc, w_iadd, w_isub, w_imul, w_idiv, w_irem, w_iand, w_ior, w_ixor, w_ishl, w_ishr, w_iushr, w_ineg, w_ladd, w_lsub, w_lmul, w_ldiv, w_lrem, w_lcmp, w_i2l, w_l2i, w_dup, w_pop, w_dup2, w_ieq, w_zeq, w_ine, w_zne, w_ilt, w_zlt, w_ige, w_zge, w_igt, w_zgt, w_ile, w_zle, w_cut, w_tsw, zsw, w_iret, w_zret, w_lret, w_vret, w_nret, w_getI, w_getJ, w_getR, w_putI, w_putZ, w_putJ, w_iald, w_zald, w_iast, w_zast, w_alen, w_sI, w_sJ, w_sV, w_vI, w_vJ, w_vV, w_tI, w_mmax, w_mmin, w_mabs, w_lmax, w_acopy, gL, sL, kl_i, kl_l, kl_r, kl_s, kl_m, qI_i, qJ_l, qA_r, qA_s, pI_i, pJ_l, pA_r, pS_s, pM_m, pV_v, c1_i, c1_r, c1_s, c1_m, cS_0, cS_i, cS_l, cS_r, cS_s, cS_m, pN, z_rc_r, zE1, zE2, zE3, true_and, and_true, Nat.zero_add, Nat.reduceAdd, Nat.reduceLeDiff, true_or, or_true, Int.reduceLE, Int.reduceLT, zcmp_l, zcmp_g, zcmp_e, zcmp_le, mo, mf0, mz0, mf1, mz1, mf2, mz2, mf6, mz6, mf10, mz10, mf11, mz11, mf12, mz12, mf13, mz13, mf14, mz14, mf16, mz16, mf17, mz17, mf18, mz18, mf19, mz19, mi3, mi7, mi8, mi9, mi15, mi4, mi5, mi20, ma125, mn125, ma126, mn126, ma127, mn127, ma128, mn128, ma129, mn129, ma130, mn130, ma131, mn131, ma132, mn132, ma133, mn133, ma134, mn134, ma135, mn135, ma136, mn136, ma137, mn137]
      rw [h.z (by omega) (by omega)]
      refine ⟨fun _ => l88 _ 0 _ _ _ _ _ D rfl (by omega) (Int.le_of_lt (Int.pow_pos (by decide))) yF.rfl, fun w => absurd (by omega) w⟩
    | succ r ih =>
      intro k v9 v10 v11 v12 v13 hr hk
      have kb := oD_b (a := s 0) k
      have p8 := p10_le k (by omega)
      have nk := fun v9 v10 v11 v12 v13 => ih (k + 1) v9 v10 v11 v12 v13 (by omega) (by omega)
      rw [oD_s] at nk
      refine sX6_odds_42 _ _ _ _ _ ?_
      simp only [tX6_odds_42, w_ic, w_lc, w_lds, w_ild, w_lld, w_ald, w_ist, w_lst, w_ast, w_iinc, w_iadd, w_isub, w_imul, w_idiv, w_irem, w_iand, w_ior, w_ixor, w_ishl, w_ishr, w_iushr, w_ineg, w_ladd, w_lsub, w_lmul, w_ldiv, w_lrem, w_lcmp, w_i2l, w_l2i, w_dup, w_pop, w_dup2, w_ieq, w_zeq, w_ine, w_zne, w_ilt, w_zlt, w_ige, w_zge, w_igt, w_zgt, w_ile, w_zle, w_cut, w_tsw, zsw, w_iret, w_zret, w_lret, w_vret, w_nret, w_getI, w_getJ, w_getR, w_putI, w_putZ, w_putJ, w_iald, w_zald, w_iast, w_zast, w_alen, w_sI, w_sJ, w_sV, w_vI, w_vJ, w_vV, w_tI, w_mmax, w_mmin, w_mabs, w_lmax, w_acopy, gL, sL, kl_i, kl_l, kl_r, kl_s, kl_m, qI_i, qJ_l, qA_r, qA_s, pI_i, pJ_l, pA_r, pS_s, pM_m, pV_v, c1_i, c1_r, c1_s, c1_m, cS_0, cS_i, cS_l, cS_r, cS_s, cS_m, pN, z_rc_r, zE1, zE2, zE3, true_and, and_true, Nat.zero_add, Nat.reduceAdd, Nat.reduceLeDiff, true_or, or_true, Int.reduceLE, Int.reduceLT, zcmp_l, zcmp_g, zcmp_e, zcmp_le, mo, mf0, mz0, mf1, mz1, mf2, mz2, mf6, mz6, mf10, mz10, mf11, mz11, mf12, mz12, mf13, mz13, mf14, mz14, mf16, mz16, mf17, mz17, mf18, mz18, mf19, mz19, mi3, mi7, mi8, mi9, mi15, mi4, mi5, mi20, ma125, mn125, ma126, mn126, ma127, mn127, ma128, mn128, ma129, mn129, ma130, mn130, ma131, mn131, ma132, mn132, ma133, mn133, ma134, mn134, ma135, mn135, ma136, mn136, ma137, mn137]
      rw [h.z (by omega) (by omega), h.z (j := 10 + k) (by omega) (by omega)]
      refine ⟨fun w => absurd w (by omega), fun _ => ?_⟩
      repeat' (with_reducible apply And.intro)
      all_goals first | omega | exact ⟨by omega, by omega⟩ | skip
      · intro g
        rw [if_neg g] at nk
        rw [z64_id (show zR6 (oD (s 0) k * 1) from ⟨by omega, by omega⟩)]
        exact ⟨⟨by omega, by omega⟩, nk _ _ _ _ _⟩
      · intro g
        rw [if_pos (Decidable.not_not.mp g)] at nk
        rw [z64_id (show zR6 (oD (s 0) k * 10) from ⟨by omega, by omega⟩)]
        exact ⟨⟨by omega, by omega⟩, nk _ _ _ _ _⟩
  exact l42 _ 0 _ _ _ _ _ rfl (by omega)
