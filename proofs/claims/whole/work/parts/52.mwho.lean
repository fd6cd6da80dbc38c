/-! ===== 52: the model: who ===== -/
theorem bA_drop : ∀ x : Nat, x < 64 → ∀ i : Nat, i < 6 → bA (x : Int) (bX (bL 1 (i : Int)) (-1)) = (x : Int) - zbt x i * 2 ^ i := by decide +kernel
theorem bA_same : ∀ x : Nat, x < 64 → bA (x : Int) (x : Int) = (x : Int) := by decide +kernel
theorem bL_ones : ∀ n : Nat, n < 7 → bL 1 (n : Int) - 1 = zbits n (fun _ => 1) := by decide +kernel
theorem zsum_chg {f g : Int → Int} {i : Int} (h : ∀ j, j ≠ i → f j = g j) : ∀ n : Nat, 0 ≤ i → i < n → zsum n f = zsum n g + (f i - g i)
  | 0, h0, h1 => by omega
  | n + 1, h0, h1 => by
    show zsum n f + f n = zsum n g + g n + (f i - g i)
    by_cases e : i = n
    · rw [zsum_eq n (fun k k0 k1 => h k (by omega)), e]
      omega
    · rw [zsum_chg h n h0 (by omega), h n (by omega)]
      omega
theorem zbits_eq {f g : Int → Int} {n : Nat} (h : ∀ j : Int, 0 ≤ j → j < n → (f j = 0 ↔ g j = 0)) : zbits n f = zbits n g := by
  refine zsum_eq n fun k k0 k1 => ?_
  have := h k k0 k1
  by_cases e : f k = 0
  · rw [if_pos e, if_pos (this.mp e)]
  · rw [if_neg e, if_neg (fun w => e (this.mpr w))]
theorem zbits_64 {f : Int → Int} {n : Nat} (hn : n ≤ 6) : 0 ≤ zbits n f ∧ zbits n f < 64 := by
  have zb := zbits_b (f := f) n
  have : (2 : Int) ^ n ≤ 64 := (by decide : ∀ n : Nat, n < 7 → (2 : Int) ^ n ≤ 64) n (by omega)
  omega
theorem zbits_drop {f : Int → Int} {n : Nat} {i : Int} (hn : n ≤ 6) (i0 : 0 ≤ i) (i1 : i < n) : bA (zbits n f) (bX (bL 1 i) (-1)) = zbits n (fun j => if j = i then 0 else f j) := by
  have zb := zbits_64 (f := f) hn
  obtain ⟨x, hx⟩ := Int.eq_ofNat_of_zero_le zb.1
  obtain ⟨q, rfl⟩ := Int.eq_ofNat_of_zero_le i0
  have hz := zbt_zbits (f := f) n q
  rw [hx] at hz
  have hd := bA_drop x (by omega) q (by omega)
  rw [hx, hd, hz, ← hx]
  unfold zbits
  dsimp only
  have e := zsum_chg (f := fun j => if f j = 0 then (0 : Int) else 2 ^ j.toNat) (g := fun j => if (if j = (q : Int) then 0 else f j) = 0 then (0 : Int) else 2 ^ j.toNat) (i := q) (fun j hj => by rw [if_neg (c := j = (q : Int)) hj]) n i0 i1
  rw [e]
  rw [if_pos (c := (q : Int) = q) rfl, if_pos (c := (0 : Int) = 0) rfl, Int.toNat_natCast]
  by_cases hf : f q = 0
  · rw [if_pos hf, if_neg (fun w => w.2 hf)]
    omega
  · rw [if_neg hf, if_pos ⟨by omega, hf⟩]
    omega
def wPr (a : Int → Int) (m k i t j : Int) : Prop := a (56 + 3 * t) < m ∨ (a (56 + 3 * t) = m ∧ (t < k ∨ (t = k ∧ j < i)))
def wF (a : Int → Int) (m k i j : Int) : Prop := ∀ t, 0 ≤ t → t < a 54 → wPr a m k i t j → okS a j t
theorem wF_c {a : Int → Int} {m k i m' k' i' j : Int} (h : ∀ t, 0 ≤ t → t < a 54 → (wPr a m k i t j ↔ wPr a m' k' i' t j)) : wF a m k i j ↔ wF a m' k' i' j :=
  ⟨fun w t t0 t1 p => w t t0 t1 ((h t t0 t1).mpr p), fun w t t0 t1 p => w t t0 t1 ((h t t0 t1).mp p)⟩
noncomputable def wSet (a : Int → Int) (m k i : Int) : Int := zbits (a 1).toNat (fun j => cIf (wF a m k i j) 1 0)
theorem cIf_z {p q : Prop} (h : p ↔ q) : (cIf p (1 : Int) 0 = 0 ↔ cIf q (1 : Int) 0 = 0) := by
  by_cases e : p
  · rw [cIf_t e, cIf_t (h.mp e)]
  · rw [cIf_f e, cIf_f (fun w => e (h.mpr w))]
theorem wSet_c {a : Int → Int} {m k i m' k' i' : Int} (h : ∀ j, 0 ≤ j → j < a 1 → ∀ t, 0 ≤ t → t < a 54 → (wPr a m k i t j ↔ wPr a m' k' i' t j)) : wSet a m k i = wSet a m' k' i' := zbits_eq fun j j0 j1 => cIf_z (wF_c fun t t0 t1 => h j j0 (by omega) t t0 t1)
theorem wF_s {a : Int → Int} {m k i j : Int} (k0 : 0 ≤ k) (k1 : k < a 54) (hm : a (56 + 3 * k) = m) : wF a m k (i + 1) j ↔ wF a m k i j ∧ (j = i → okS a i k) := by
  constructor
  · intro w
    refine ⟨fun t t0 t1 p => w t t0 t1 ?_, fun e => ?_⟩
    · unfold wPr at p ⊢; omega
    · have := w k k0 k1
      rw [e] at this
      exact this (by unfold wPr; omega)
  · rintro ⟨w, q⟩ t t0 t1 p
    by_cases e : t = k ∧ j = i
    · rw [e.1, e.2]; exact q e.2
    · refine w t t0 t1 ?_
      unfold wPr at p ⊢
      omega
theorem okS_p {M : Int} {a : Int → Int} {i t : Int} {m : Nat} (hw : WA M a) (i0 : 0 ≤ i) (i1 : i < a 1) (t0 : 0 ≤ t) (t1 : t < a 54) (hm : a (56 + 3 * t) = m) : okS a i t ↔ sHr (sPs m a) (a (55 + 3 * t)) i = 1 ∧ sLd (sPs m a) i = a (57 + 3 * t) := by
  have n0 := hw.n0
  have n1 := hw.n1
  have ws := hw.2.2.2.2.1 t t0 t1
  have n2 := hw.n2
  have eA := sPs_at n0.2 n1.2 i0 i1 m
  have eB := sPs_at n0.2 n1.2 i0 i1 (m + 1)
  have eB' : sNa (sPs m a) i = sAt a i (m + 1) := by
    rw [← eB]
    have e1 : sPs m a 1 = a 1 := sPs_n (by omega) n1.2 (by omega) m
    exact (sPass_at i0 (by omega)).symm
  have e16 : sPs m a (16 + i) = a (16 + i) := sPs_n (by omega) n1.2 (by omega) m
  have e46 : sPs m a (46 + a (55 + 3 * t)) = a (46 + a (55 + 3 * t)) := sPs_n (by omega) n1.2 (by omega) m
  have e50 : sPs m a (50 + a (55 + 3 * t)) = a (50 + a (55 + 3 * t)) := sPs_n (by omega) n1.2 (by omega) m
  have e3 : sPs m a 3 = a 3 + m := sPs_3 m
  unfold okS sHr sLd
  rw [eA, eB', e16, e46, e50, e3, hm, Int.toNat_natCast]
  constructor
  · rintro ⟨h1, h2, h3⟩
    rw [if_neg (Ne.symm h1), if_neg (Ne.symm h1), h2, if_pos h3]
    exact ⟨rfl, rfl⟩
  · rintro ⟨h1, h2⟩
    by_cases e : sAt a i (m + 1) = sAt a i m
    · rw [if_pos e] at h1; omega
    · rw [if_neg e] at h1 h2
      refine ⟨Ne.symm e, h2, ?_⟩
      rw [h2] at h1
      split at h1
      · assumption
      · omega
theorem m_who {n : Int} {s : Mem} (hW : WS n s) : mOK miX6_who [zr 124] s (r_who s) := by
  intro D P hM hP
  have w := hW.1.1
  have h := hM.1
  have n1 := w.n1
  have n2 := w.n2
  have n4 := w.n4
  have l17 : ∀ (r m : Nat) (v3 v4 v5 v6 : AV) (D1 : Mem), 31 - m = r → m ≤ 31 → yF D D1 → yQ D1 1092 (sPs m (s 0)) → zW miX6_who P 17 [zr 124, zi (wSet (s 0) m 0 0), zi m, v3, v4, v5, v6] D1 := by
    intro r
    induction r with
    | zero =>
      intro m v3 v4 v5 v6 D1 hr hm hf hq
      have fin := hP D1 hf.fr (hM.s hf)
      have e : wSet (s 0) m 0 0 = zbits (s 0 1).toNat (fun i => cIf (sFS (s 0) i) 1 0) := by
        refine zbits_eq fun j j0 j1 => cIf_z ⟨fun w2 t t0 t1 => w2 t t0 t1 ?_, fun w2 t t0 t1 _ => w2 t t0 t1⟩
        have := (w.2.2.2.2.1 t t0 t1).2.1.2
        unfold wPr
        omega
      rw [e]
      refine sX6_who_17 _ _ _ _ _ ?_
      simp only [tX6_who_17, w_ic, w_lc, w_lds, w_ild, w_lld, w_ald, w_ist, w_lst, w_ast, w_iinc, w_iadd, w_isub, w_imul, w_idiv, w_irem, w_iand, w_ior, w_ixor, w_ishl, w_ishr, w_iushr, w_ineg, w_ladd, w_lsub, w_lmul, w_ldiv, w_lrem, w_lcmp, w_i2l, w_l2i, w_dup, w_pop, w_dup2, w_ieq, w_zeq, w_ine, w_zne, w_ilt, w_zlt, w_ige, w_zge, w_igt, w_zgt, w_ile, w_zle, w_cut, w_tsw, zsw, w_iret, w_zret, w_lret, w_vret, w_nret, w_getI, w_getJ, w_getR, w_putI, w_putZ, w_putJ, w_iald, w_zald, w_iast, w_zast, w_alen, w_sI, w_sJ, w_sV, w_vI, w_vJ, w_vV, w_tI, w_mmax, w_mmin, w_mabs, w_lmax, w_acopy, gL, sL, kl_i, kl_l, kl_r, kl_s, kl_m, qI_i, qJ_l, qA_r, qA_s, pI_i, pJ_l, pA_r, pS_s, pM_m, pV_v, c1_i, c1_r, c1_s, c1_m, cS_0, cS_i, cS_l, cS_r, cS_s, cS_m, pN, z_rc_r, zE1, zE2, zE3, true_and, and_true, Nat.zero_add, Nat.reduceAdd, Nat.reduceLeDiff, true_or, or_true, Int.reduceLE, Int.reduceLT, zcmp_l, zcmp_g, zcmp_e, zcmp_le, mo, mf0, mz0, mf1, mz1, mf2, mz2, mf6, mz6, mf10, mz10, mf11, mz11, mf12, mz12, mf13, mz13, mf14, mz14, mf16, mz16, mf17, mz17, mf18, mz18, mf19, mz19, mi3, mi7, mi8, mi9, mi15, mi4, mi5, mi20, ma125, mn125, ma126, mn126, ma127, mn127, ma128, mn128, ma129, mn129, ma130, mn130, ma131, mn131, ma132, mn132, ma133, mn133, ma134, mn134, ma135, mn135, ma136, mn136, ma137, mn137]
      exact ⟨fun _ => fin, fun w => absurd (by omega) w⟩
    | succ r ih =>
      intro m v3 v4 v5 v6 D1 hr hm hf hq
      have wm : WA (9999 + (m : Int)) (sPs m (s 0)) := sPs_wa w (by decide) m
      have l25 : ∀ (rk : Nat) (k : Int) (v4 v5 v6 : AV) (D2 : Mem), (s 0 54 - k).toNat = rk → 0 ≤ k → k ≤ s 0 54 → yF D D2 → yQ D2 1092 (sPs m (s 0)) → zW miX6_who P 25 [zr 124, zi (wSet (s 0) m k 0), zi m, zi k, v4, v5, v6] D2 := by
        intro rk
        induction rk with
        | zero =>
          intro k v4 v5 v6 D2 hk k0 k1 hf2 hq2
          have h2 := (hM.s hf2).1
          have e : wSet (s 0) m k 0 = wSet (s 0) ((m + 1 : Nat) : Int) 0 0 := wSet_c fun j j0 j1 t t0 t1 => by unfold wPr; omega
          rw [e]
          refine sX6_who_25 _ _ _ _ _ ?_
          simp only [tX6_who_25, w_ic, w_lc, w_lds, w_ild, w_lld, w_ald, w_ist, w_lst, w_ast, w_iinc, w_iadd, w_isub, w_imul, w_idiv, w_irem, w_iand, w_ior, w_ixor, w_ishl, w_ishr, w_iushr, w_ineg, w_ladd, w_lsub, w_lmul, w_ldiv, w_lrem, w_lcmp, w_i2l, w_l2i, w_dup, w_pop, w_dup2, w_ieq, w_zeq, w_ine, w_zne, w_ilt, w_zlt, w_ige, w_zge, w_igt, w_zgt, w_ile, w_zle, w_cut, w_tsw, zsw, w_iret, w_zret, w_lret, w_vret, w_nret, w_getI, w_getJ, w_getR, w_putI, w_putZ, w_putJ, w_iald, w_zald, w_iast, w_zast, w_alen, w_sI, w_sJ, w_sV, w_vI, w_vJ, w_vV, w_tI, w_mmax, w_mmin, w_mabs, w_lmax, w_acopy, gL, sL, kl_i, kl_l, kl_r, kl_s, kl_m, qI_i, qJ_l, qA_r, qA_s, pI_i, pJ_l, pA_r, pS_s, pM_m, pV_v, c1_i, c1_r, c1_s, c1_m, cS_0, cS_i, cS_l, cS_r, cS_s, cS_m, pN, z_rc_r, zE1, zE2, zE3, true_and, and_true, Nat.zero_add, Nat.reduceAdd, Nat.reduceLeDiff, true_or, or_true, Int.reduceLE, Int.reduceLT, zcmp_l, zcmp_g, zcmp_e, zcmp_le, mo, mf0, mz0, mf1, mz1, mf2, mz2, mf6, mz6, mf10, mz10, mf11, mz11, mf12, mz12, mf13, mz13, mf14, mz14, mf16, mz16, mf17, mz17, mf18, mz18, mf19, mz19, mi3, mi7, mi8, mi9, mi15, mi4, mi5, mi20, ma125, mn125, ma126, mn126, ma127, mn127, ma128, mn128, ma129, mn129, ma130, mn130, ma131, mn131, ma132, mn132, ma133, mn133, ma134, mn134, ma135, mn135, ma136, mn136, ma137, mn137]
          rw [h2.z (by omega) (by omega)]
          refine ⟨fun _ => ?_, fun w => absurd (by omega) w⟩
          refine m_passT hq2 wm (by omega) fun D3 f3 _ q3 => ⟨⟨by omega, by omega⟩, ?_⟩
          exact ih (m + 1) _ _ _ _ D3 (by omega) (by omega) (hf2.trans f3) q3
        | succ rk ihk =>
          intro k v4 v5 v6 D2 hk k0 k1 hf2 hq2
          have h2 := (hM.s hf2).1
          have ws := w.2.2.2.2.1 k k0 (by omega)
          have next : ∀ (i : Int) (v4 v5 v6 : AV) (D3 : Mem), 0 ≤ i → (s 0 1 ≤ i ∨ s 0 (56 + 3 * k) ≠ m) → yF D D3 → yQ D3 1092 (sPs m (s 0)) → zR (k + 1) ∧ zW miX6_who P 25 [zr 124, zi (wSet (s 0) m k i), zi m, zi (k + 1), v4, v5, v6] D3 := by
            intro i v4 v5 v6 D3 i0 hi hf3 hq3
            have e : wSet (s 0) m k i = wSet (s 0) m (k + 1) 0 := wSet_c fun j j0 j1 t t0 t1 => by
              unfold wPr
              by_cases et : t = k
              · rw [et]; omega
              · omega
            rw [e]
            exact ⟨⟨by omega, by omega⟩, ihk (k + 1) v4 v5 v6 D3 (by omega) (by omega) (by omega) hf3 hq3⟩
          have l47 : ∀ (ri : Nat) (i : Int) (v6 : AV) (D3 : Mem), (s 0 1 - i).toNat = ri → 0 ≤ i → i ≤ s 0 1 → yF D D3 → yQ D3 1092 (sPs m (s 0)) → zW miX6_who P 47 [zr 124, zi (wSet (s 0) m k i), zi m, zi k, zi (55 + 3 * k), zi i, v6] D3 := by
            intro ri
            induction ri with
            | zero =>
              intro i v6 D3 hi i0 i1 hf3 hq3
              have h3 := (hM.s hf3).1
              refine sX6_who_47 _ _ _ _ _ ?_
              simp only [tX6_who_47, w_ic, w_lc, w_lds, w_ild, w_lld, w_ald, w_ist, w_lst, w_ast, w_iinc, w_iadd, w_isub, w_imul, w_idiv, w_irem, w_iand, w_ior, w_ixor, w_ishl, w_ishr, w_iushr, w_ineg, w_ladd, w_lsub, w_lmul, w_ldiv, w_lrem, w_lcmp, w_i2l, w_l2i, w_dup, w_pop, w_dup2, w_ieq, w_zeq, w_ine, w_zne, w_ilt, w_zlt, w_ige, w_zge, w_igt, w_zgt, w_ile, w_zle, w_cut, w_tsw, zsw, w_iret, w_zret, w_lret, w_vret, w_nret, w_getI, w_getJ, w_getR, w_putI, w_putZ, w_putJ, w_iald, w_zald, w_iast, w_zast, w_alen, w_sI, w_sJ, w_sV, w_vI, w_vJ, w_vV, w_tI, w_mmax, w_mmin, w_mabs, w_lmax, w_acopy, gL, sL, kl_i, kl_l, kl_r, kl_s, kl_m, qI_i, qJ_l, qA_r, qA_s, pI_i, pJ_l, pA_r, pS_s, pM_m, pV_v, c1_i, c1_r, c1_s, c1_m, cS_0, cS_i, cS_l, cS_r, cS_s, cS_m, pN, z_rc_r, zE1, zE2, zE3, true_and, and_true, Nat.zero_add, Nat.reduceAdd, Nat.reduceLeDiff, true_or, or_true, Int.reduceLE, Int.reduceLT, zcmp_l, zcmp_g, zcmp_e, zcmp_le, mo, mf0, mz0, mf1, mz1, mf2, mz2, mf6, mz6, mf10, mz10, mf11, mz11, mf12, mz12, mf13, mz13, mf14, mz14, mf16, mz16, mf17, mz17, mf18, mz18, mf19, mz19, mi3, mi7, mi8, mi9, mi15, mi4, mi5, mi20, ma125, mn125, ma126, mn126, ma127, mn127, ma128, mn128, ma129, mn129, ma130, mn130, ma131, mn131, ma132, mn132, ma133, mn133, ma134, mn134, ma135, mn135, ma136, mn136, ma137, mn137]
              rw [h3.z (by omega) (by omega)]
              exact ⟨fun _ => next i _ _ _ D3 i0 (by omega) hf3 hq3, fun w => absurd (by omega) w⟩
            | succ ri ihi =>
              intro i v6 D3 hi i0 i1 hf3 hq3
              have h3 := (hM.s hf3).1
              refine sX6_who_47 _ _ _ _ _ ?_
              simp only [tX6_who_47, w_ic, w_lc, w_lds, w_ild, w_lld, w_ald, w_ist, w_lst, w_ast, w_iinc, w_iadd, w_isub, w_imul, w_idiv, w_irem, w_iand, w_ior, w_ixor, w_ishl, w_ishr, w_iushr, w_ineg, w_ladd, w_lsub, w_lmul, w_ldiv, w_lrem, w_lcmp, w_i2l, w_l2i, w_dup, w_pop, w_dup2, w_ieq, w_zeq, w_ine, w_zne, w_ilt, w_zlt, w_ige, w_zge, w_igt, w_zgt, w_ile, w_zle, w_cut, w_tsw, zsw, w_iret, w_zret, w_lret, w_vret, w_nret, w_getI, w_getJ, w_getR, w_putI, w_putZ, w_putJ, w_iald, w_zald, w_iast, w_zast, w_alen, w_sI, w_sJ, w_sV, w_vI, w_vJ, w_vV, w_tI, w_mmax, w_mmin, w_mabs, w_lmax, w_acopy, gL, sL, kl_i, kl_l, kl_r, kl_s, kl_m, qI_i, qJ_l, qA_r, qA_s, pI_i, pJ_l, pA_r, pS_s, pM_m, pV_v, c1_i, c1_r, c1_s, c1_m, cS_0, cS_i, cS_l, cS_r, cS_s, cS_m, pN, z_rc_r, zE1, zE2, zE3, true_and, and_true, Nat.zero_add, Nat.reduceAdd, Nat.reduceLeDiff, true_or, or_true, Int.reduceLE, Int.reduceLT, zcmp_l, zcmp_g, zcmp_e, zcmp_le, mo, mf0, mz0, mf1, mz1, mf2, mz2, mf6, mz6, mf10, mz10, mf11, mz11, mf12, mz12, mf13, mz13, mf14, mz14, mf16, mz16, mf17, mz17, mf18, mz18, mf19, mz19, mi3, mi7, mi8, mi9, mi15, mi4, mi5, mi20, ma125, mn125, ma126, mn126, ma127, mn127, ma128, mn128, ma129, mn129, ma130, mn130, ma131, mn131, ma132, mn132, ma133, mn133, ma134, mn134, ma135, mn135, ma136, mn136, ma137, mn137]
              rw [h3.z (by omega) (by omega), h3.z (j := 55 + 3 * k + 1) (by omega) (by omega), h3.z (j := 55 + 3 * k) (by omega) (by omega), show 55 + 3 * k + 1 = 56 + 3 * k by omega]
              refine ⟨fun w => absurd w (by omega), fun _ => ?_⟩
              repeat' (with_reducible apply And.intro)
              all_goals first | omega | exact ⟨by omega, by omega⟩ | skip
              · intro q
                exact next i _ _ _ D3 i0 (Or.inr q) hf3 hq3
              · intro q
                have hq9 : s 0 (56 + 3 * k) = m := Decidable.not_not.mp q
                have hok := okS_p w i0 (show i < s 0 1 by omega) k0 (show k < s 0 54 by omega) hq9
                have hn6 : (s 0 1).toNat ≤ 6 := by omega
                have z64' := zbits_64 (f := fun j => cIf (wF (s 0) m k i j) 1 0) hn6
                have e1 : sPs m (s 0) 1 = s 0 1 := sPs_n (by omega) n1.2 (by omega) m
                have e2 : sPs m (s 0) 2 = s 0 2 := sPs_n (by omega) n1.2 (by omega) m
                -- the two ends
                have no : ¬ okS (s 0) i k → ∀ (v6 : AV) (D4 : Mem), yF D D4 → yQ D4 1092 (sPs m (s 0)) → zR (i + 1) ∧ zW miX6_who P 47 [zr 124, zi (bA (wSet (s 0) m k i) (bX (bL 1 i) (-1))), zi m, zi k, zi (55 + 3 * k), zi (i + 1), v6] D4 := by
                  intro hno v6 D4 hf4 hq4
                  have e : bA (wSet (s 0) m k i) (bX (bL 1 i) (-1)) = wSet (s 0) m k (i + 1) := by
                    unfold wSet
                    rw [zbits_drop hn6 i0 (by omega)]
                    refine zbits_eq fun j j0 j1 => ?_
                    have hs := wF_s (a := s 0) (i := i) (j := j) k0 (show k < s 0 54 by omega) hq9
                    by_cases ej : j = i
                    · rw [if_pos ej, cIf_f (fun w2 => hno ((hs.mp w2).2 ej))]
                    · rw [if_neg ej]
                      exact cIf_z ⟨fun w2 => hs.mpr ⟨w2, fun e => absurd e ej⟩, fun w2 => (hs.mp w2).1⟩
                  rw [e]
                  exact ⟨⟨by omega, by omega⟩, ihi (i + 1) v6 D4 (by omega) (by omega) (by omega) hf4 hq4⟩
                have yes : okS (s 0) i k → ∀ (v6 : AV) (D4 : Mem), yF D D4 → yQ D4 1092 (sPs m (s 0)) → zR (i + 1) ∧ zW miX6_who P 47 [zr 124, zi (bA (wSet (s 0) m k i) (wSet (s 0) m k i)), zi m, zi k, zi (55 + 3 * k), zi (i + 1), v6] D4 := by
                  intro hyes v6 D4 hf4 hq4
                  have e : bA (wSet (s 0) m k i) (wSet (s 0) m k i) = wSet (s 0) m k (i + 1) := by
                    unfold wSet
                    obtain ⟨x, hx⟩ := Int.eq_ofNat_of_zero_le z64'.1
                    rw [hx, bA_same x (by omega), ← hx]
                    refine zbits_eq fun j j0 j1 => ?_
                    have hs := wF_s (a := s 0) (i := i) (j := j) k0 (show k < s 0 54 by omega) hq9
                    exact cIf_z ⟨fun w2 => hs.mpr ⟨w2, fun _ => hyes⟩, fun w2 => (hs.mp w2).1⟩
                  rw [e]
                  exact ⟨⟨by omega, by omega⟩, ihi (i + 1) v6 D4 (by omega) (by omega) (by omega) hf4 hq4⟩
                refine ⟨by omega, by omega, ?_⟩
                refine m_hearsIn (Or.inr (Or.inr rfl)) hq3 wm ws.1.1 (by omega) i0 (by omega) (fun D4 f4 g => ⟨fun w => absurd w (by decide), fun _ => ?_⟩) (fun D4 f4 g => ⟨fun _ => ⟨fun _ => no (fun w2 => ?_) _ D4 (hf3.trans f4.s) (f4.q hq3), fun w => absurd trivial w⟩, fun w => absurd rfl w⟩)
                · refine m_loudIn (Or.inr (Or.inr rfl)) (f4.q hq3) wm i0 (by omega) fun D5 f5 => ?_
                  have f6 := hf3.trans (f4.s.trans f5.s)
                  have h5 := (hM.s f6).1
                  rw [h5.z (j := 55 + 3 * k + 2) (by omega) (by omega), show 55 + 3 * k + 2 = 57 + 3 * k by omega]
                  repeat' (with_reducible apply And.intro)
                  all_goals first | omega | exact ⟨by omega, by omega⟩ | skip
                  · intro q2
                    exact ⟨fun _ => no (fun w2 => q2 (hok.mp w2).2) _ D5 f6 (f5.q (f4.q hq3)), fun w => absurd trivial w⟩
                  · intro q2
                    exact ⟨fun w => absurd w (by decide), fun _ => yes (hok.mpr ⟨g, Decidable.not_not.mp q2⟩) _ D5 f6 (f5.q (f4.q hq3))⟩
                · have := (hok.mp w2).1
                  omega
          refine sX6_who_25 _ _ _ _ _ ?_
          simp only [tX6_who_25, w_ic, w_lc, w_lds, w_ild, w_lld, w_ald, w_ist, w_lst, w_ast, w_iinc, w_iadd, w_isub, w_imul, w_idiv, w_irem, w_iand, w_ior, w_ixor, w_ishl, w_ishr, w_iushr, w_ineg, w_ladd, w_lsub, w_lmul, w_ldiv, w_lrem, w_lcmp, w_i2l, w_l2i, w_dup, w_pop, w_dup2, w_ieq, w_zeq, w_ine, w_zne, w_ilt, w_zlt, w_ige, w_zge, w_igt, w_zgt, w_ile, w_zle, w_cut, w_tsw, zsw, w_iret, w_zret, w_lret, w_vret, w_nret, w_getI, w_getJ, w_getR, w_putI, w_putZ, w_putJ, w_iald, w_zald, w_iast, w_zast, w_alen, w_sI, w_sJ, w_sV, w_vI, w_vJ, w_vV, w_tI, w_mmax, w_mmin, w_mabs, w_lmax, w_acopy, gL, sL, kl_i, kl_l, kl_r, kl_s, kl_m, qI_i, qJ_l, qA_r, qA_s, pI_i, pJ_l, pA_r, pS_s, pM_m, pV_v, c1_i, c1_r, c1_s, c1_m, cS_0, cS_i, cS_l, cS_r, cS_s, cS_m, pN, z_rc_r, zE1, zE2, zE3, true_and, and_true, Nat.zero_add, Nat.reduceAdd, Nat.reduceLeDiff, true_or, or_true, Int.reduceLE, Int.reduceLT, zcmp_l, zcmp_g, zcmp_e, zcmp_le, mo, mf0, mz0, mf1, mz1, mf2, mz2, mf6, mz6, mf10, mz10, mf11, mz11, mf12, mz12, mf13, mz13, mf14, mz14, mf16, mz16, mf17, mz17, mf18, mz18, mf19, mz19, mi3, mi7, mi8, mi9, mi15, mi4, mi5, mi20, ma125, mn125, ma126, mn126, ma127, mn127, ma128, mn128, ma129, mn129, ma130, mn130, ma131, mn131, ma132, mn132, ma133, mn133, ma134, mn134, ma135, mn135, ma136, mn136, ma137, mn137]
          rw [h2.z (by omega) (by omega)]
          refine ⟨fun w => absurd w (by omega), fun _ => ⟨⟨by omega, by omega⟩, ⟨by omega, by omega⟩, l47 _ 0 _ D2 rfl (by omega) n1.1 hf2 hq2⟩⟩
      refine sX6_who_17 _ _ _ _ _ ?_
      simp only [tX6_who_17, w_ic, w_lc, w_lds, w_ild, w_lld, w_ald, w_ist, w_lst, w_ast, w_iinc, w_iadd, w_isub, w_imul, w_idiv, w_irem, w_iand, w_ior, w_ixor, w_ishl, w_ishr, w_iushr, w_ineg, w_ladd, w_lsub, w_lmul, w_ldiv, w_lrem, w_lcmp, w_i2l, w_l2i, w_dup, w_pop, w_dup2, w_ieq, w_zeq, w_ine, w_zne, w_ilt, w_zlt, w_ige, w_zge, w_igt, w_zgt, w_ile, w_zle, w_cut, w_tsw, zsw, w_iret, w_zret, w_lret, w_vret, w_nret, w_getI, w_getJ, w_getR, w_putI, w_putZ, w_putJ, w_iald, w_zald, w_iast, w_zast, w_alen, w_sI, w_sJ, w_sV, w_vI, w_vJ, w_vV, w_tI, w_mmax, w_mmin, w_mabs, w_lmax, w_acopy, gL, sL, kl_i, kl_l, kl_r, kl_s, kl_m, qI_i, qJ_l, qA_r, qA_s, pI_i, pJ_l, pA_r, pS_s, pM_m, pV_v, c1_i, c1_r, c1_s, c1_m, cS_0, cS_i, cS_l, cS_r, cS_s, cS_m, pN, z_rc_r, zE1, zE2, zE3, true_and, and_true, Nat.zero_add, Nat.reduceAdd, Nat.reduceLeDiff, true_or, or_true, Int.reduceLE, Int.reduceLT, zcmp_l, zcmp_g, zcmp_e, zcmp_le, mo, mf0, mz0, mf1, mz1, mf2, mz2, mf6, mz6, mf10, mz10, mf11, mz11, mf12, mz12, mf13, mz13, mf14, mz14, mf16, mz16, mf17, mz17, mf18, mz18, mf19, mz19, mi3, mi7, mi8, mi9, mi15, mi4, mi5, mi20, ma125, mn125, ma126, mn126, ma127, mn127, ma128, mn128, ma129, mn129, ma130, mn130, ma131, mn131, ma132, mn132, ma133, mn133, ma134, mn134, ma135, mn135, ma136, mn136, ma137, mn137]
      exact ⟨fun w => absurd w (by omega), fun _ => l25 _ 0 _ _ _ D1 rfl (by omega) n4.1 hf hq⟩
  refine e_X6_who ?_
  simp only [tX6_who_0, w_ic, w_lc, w_lds, w_ild, w_lld, w_ald, w_ist, w_lst, w_ast, w_iinc, w_iadd, w_isub, w_imul, w_idiv, w_irem, w_iand, w_ior, w_ixor, w_ishl, w_ishr, w_iushr, w_ineg, w_ladd, w_lsub, w_lmul, w_ldiv, w_lrem, w_lcmp, w_i2l, w_l2i, w_dup, w_pop, w_dup2, w_ieq, w_zeq, w_ine, w_zne, w_ilt, w_zlt, w_ige, w_zge, w_igt, w_zgt, w_ile, w_zle, w_cut, w_tsw, zsw, w_iret, w_zret, w_lret, w_vret, w_nret, w_getI, w_getJ, w_getR, w_putI, w_putZ, w_putJ, w_iald, w_zald, w_iast, w_zast, w_alen, w_sI, w_sJ, w_sV, w_vI, w_vJ, w_vV, w_tI, w_mmax, w_mmin, w_mabs, w_lmax, w_acopy, gL, sL, kl_i, kl_l, kl_r, kl_s, kl_m, qI_i, qJ_l, qA_r, qA_s, pI_i, pJ_l, pA_r, pS_s, pM_m, pV_v, c1_i, c1_r, c1_s, c1_m, cS_0, cS_i, cS_l, cS_r, cS_s, cS_m, pN, z_rc_r, zE1, zE2, zE3, true_and, and_true, Nat.zero_add, Nat.reduceAdd, Nat.reduceLeDiff, true_or, or_true, Int.reduceLE, Int.reduceLT, zcmp_l, zcmp_g, zcmp_e, zcmp_le, mo, mf0, mz0, mf1, mz1, mf2, mz2, mf6, mz6, mf10, mz10, mf11, mz11, mf12, mz12, mf13, mz13, mf14, mz14, mf16, mz16, mf17, mz17, mf18, mz18, mf19, mz19, mi3, mi7, mi8, mi9, mi15, mi4, mi5, mi20, ma125, mn125, ma126, mn126, ma127, mn127, ma128, mn128, ma129, mn129, ma130, mn130, ma131, mn131, ma132, mn132, ma133, mn133, ma134, mn134, ma135, mn135, ma136, mn136, ma137, mn137]
  rw [h.z (by omega) (by omega)]
  have eb := bL_ones (s 0 1).toNat (by omega)
  rw [show (((s 0 1).toNat : Nat) : Int) = s 0 1 by omega] at eb
  have e0 : zbits (s 0 1).toNat (fun _ => 1) = wSet (s 0) ((0 : Nat) : Int) 0 0 := by
    refine zbits_eq fun j j0 j1 => ?_
    have hF : wF (s 0) ((0 : Nat) : Int) 0 0 j := fun t t0 t1 p => by
      have := (w.2.2.2.2.1 t t0 t1).2.1.1
      unfold wPr at p
      omega
    rw [cIf_t hF]
  have zb := zbits_64 (f := fun _ => (1 : Int)) (n := (s 0 1).toNat) (by omega)
  rw [eb, e0]
  rw [e0] at zb
  refine ⟨⟨by omega, by omega⟩, m_tries h fun D' f g hq => l17 31 0 _ _ _ _ D' rfl (by omega) (yF.of5 f g) hq⟩
