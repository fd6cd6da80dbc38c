/-! ===== 29: paths, meetings; what was told; images; counts ===== -/
/-- the first below n for which p, or -1 -/
noncomputable def zFst (p : Int → Prop) : Nat → Int
  | 0 => -1
  | n + 1 => cIf (zFst p n = -1) (cIf (p n) n (-1)) (zFst p n)
theorem zFst_s {p : Int → Prop} {n : Nat} : zFst p (n + 1) = cIf (zFst p n = -1) (cIf (p n) (n : Int) (-1)) (zFst p n) := rfl
theorem zFst_no {p : Int → Prop} : ∀ {n : Nat}, (∀ t : Int, 0 ≤ t → t < n → ¬ p t) → zFst p n = -1
  | 0, _ => rfl
  | n + 1, h => by
    rw [zFst_s, cIf_t (zFst_no fun t t0 t1 => h t t0 (by omega)), cIf_f (h n (by omega) (by omega))]
theorem zFst_of {p : Int → Prop} {t : Int} (t0 : 0 ≤ t) (hp : p t) (hf : ∀ u, 0 ≤ u → u < t → ¬ p u) : ∀ {n : Nat}, t < n → zFst p n = t
  | 0, h => by omega
  | n + 1, h => by
    by_cases e : t = n
    · rw [zFst_s, cIf_t (zFst_no fun u u0 u1 => hf u u0 (by omega)), cIf_t (by rw [← e]; exact hp), e]
    · have ih := zFst_of (n := n) t0 hp hf (by omega)
      rw [zFst_s, cIf_f (by omega), ih]
theorem zFst_spec {p : Int → Prop} : ∀ (n : Nat), (zFst p n = -1 ∧ ∀ t : Int, 0 ≤ t → t < n → ¬ p t) ∨ (0 ≤ zFst p n ∧ zFst p n < n ∧ p (zFst p n) ∧ ∀ t : Int, 0 ≤ t → t < zFst p n → ¬ p t)
  | 0 => Or.inl ⟨rfl, fun t t0 t1 => by omega⟩
  | n + 1 => by
    rcases zFst_spec (p := p) n with ⟨h1, h2⟩ | ⟨h1, h2, h3, h4⟩
    · by_cases q : p n
      · have e : zFst p (n + 1) = n := by rw [zFst_s, cIf_t h1, cIf_t q]
        rw [e]
        exact Or.inr ⟨by omega, by omega, q, fun t t0 t1 => h2 t t0 t1⟩
      · refine Or.inl ⟨by rw [zFst_s, cIf_t h1, cIf_f q], fun t t0 t1 => ?_⟩
        by_cases e : t = n
        · rw [e]; exact q
        · exact h2 t t0 (by omega)
    · have e : zFst p (n + 1) = zFst p n := by rw [zFst_s, cIf_f (by omega)]
      rw [e]
      exact Or.inr ⟨h1, by omega, h3, h4⟩
theorem zFst_congr {p q : Int → Prop} (n : Nat) (h : ∀ t : Int, 0 ≤ t → t < n → (p t ↔ q t)) : zFst p n = zFst q n := by
  rcases zFst_spec (p := q) n with ⟨h1, h2⟩ | ⟨h1, h2, h3, h4⟩
  · rw [h1]
    exact zFst_no fun t t0 t1 w => h2 t t0 t1 ((h t t0 t1).mp w)
  · exact zFst_of h1 ((h _ h1 h2).mpr h3) (fun u u0 u1 w => h4 u u0 u1 ((h u u0 (by omega)).mp w)) h2
def sMt (f g : Nat → Int) (x y t : Int) : Prop := f (t - x).toNat = g (t - y).toNat
theorem c_firstMeeting {f g : Nat → Int} {x y l : Int} {D : Mem} {P : Int → Mem → Prop} (hf : ∀ m : Nat, m ≤ 60 → D 115 m = f m) (hg : ∀ m : Nat, m ≤ 60 → D 117 m = g m) (x0 : 0 ≤ x) (x1 : x ≤ 100) (y0 : 0 ≤ y) (y1 : y ≤ 100) (l0 : 0 ≤ l) (l1 : l ≤ 60) (hP : P (zFst (sMt f g x y) (l + 1).toNat) D) : zC miX5_firstMeeting [zr 0, zi x, zi y, zi l] D P := by
  have i61 : ((61 : Nat) : Int) = 61 := rfl
  have loop : ∀ (s : Nat) (t : Int) (v5 v6 : AV), (l + 1 - t).toNat = s → 0 ≤ t → t ≤ l + 1 → (∀ u, 0 ≤ u → u < t → ¬ sMt f g x y u) → zW miX5_firstMeeting P 3 [zr 0, zi x, zi y, zi l, zi t, v5, v6] D := by
    intro s
    induction s with
    | zero =>
      intro t v5 v6 hs t0 t1 hn
      refine sX5_firstMeeting_3 _ _ _ _ _ ?_
      simp only [tX5_firstMeeting_3, w_ic, w_lc, w_lds, w_ild, w_lld, w_ald, w_ist, w_lst, w_ast, w_iinc, w_iadd, w_isub, w_imul, w_idiv, w_irem, w_iand, w_ior, w_ixor, w_ishl, w_ishr, w_iushr, w_ineg, w_ladd, w_lsub, w_lmul, w_ldiv, w_lrem, w_lcmp, w_i2l, w_l2i, w_dup, w_pop, w_dup2, w_ieq, w_zeq, w_ine, w_zne, w_ilt, w_zlt, w_ige, w_zge, w_igt, w_zgt, w_ile, w_zle, w_cut, w_tsw, zsw, w_iret, w_zret, w_lret, w_vret, w_nret, w_getI, w_getJ, w_getR, w_putI, w_putZ, w_putJ, w_iald, w_zald, w_iast, w_zast, w_alen, w_sI, w_sJ, w_sV, w_vI, w_vJ, w_vV, w_tI, w_mmax, w_mmin, w_mabs, w_lmax, w_acopy, gL, sL, kl_i, kl_l, kl_r, kl_s, kl_m, qI_i, qJ_l, qA_r, qA_s, pI_i, pJ_l, pA_r, pS_s, pM_m, pV_v, c1_i, c1_r, c1_s, c1_m, cS_0, cS_i, cS_l, cS_r, cS_s, cS_m, pN, z_rc_r, zE1, zE2, zE3, true_and, and_true, Nat.zero_add, Nat.reduceAdd, Nat.reduceLeDiff, true_or, or_true, q0, qp4, qp5, qp8, qp9, qf0, qz0, qf1, qz1, qf2, qz2, qf3, qz3, qf6, qz6, qf7, qz7, qf10, qz10, qf11, qz11, qf12, qz12, qf13, qz13, qf14, qz14, k1o, k1m, k1f0, k1z0, k1f1, k1z1, k1f2, k1z2, k1f3, k1z3, k1f4, k1z4, k1f5, k1z5, k1f6, k1z6, k1f7, k1z7, k1r0, k1r1, k1r2, k1r3, k1r4, k1r5, k1r6, k1w, k109, k109a, k109b, k109c, k109d, k109e, k109f, k109g, kr110, kr112, kr114, kr116, kr118, kr120, kr122]
      rw [zFst_no fun u u0 u1 => hn u u0 (by omega)] at hP
      exact ⟨fun _ => hP, fun q => absurd (by omega) q⟩
    | succ s ih =>
      intro t v5 v6 hs t0 t1 hn
      refine sX5_firstMeeting_3 _ _ _ _ _ ?_
      simp only [tX5_firstMeeting_3, w_ic, w_lc, w_lds, w_ild, w_lld, w_ald, w_ist, w_lst, w_ast, w_iinc, w_iadd, w_isub, w_imul, w_idiv, w_irem, w_iand, w_ior, w_ixor, w_ishl, w_ishr, w_iushr, w_ineg, w_ladd, w_lsub, w_lmul, w_ldiv, w_lrem, w_lcmp, w_i2l, w_l2i, w_dup, w_pop, w_dup2, w_ieq, w_zeq, w_ine, w_zne, w_ilt, w_zlt, w_ige, w_zge, w_igt, w_zgt, w_ile, w_zle, w_cut, w_tsw, zsw, w_iret, w_zret, w_lret, w_vret, w_nret, w_getI, w_getJ, w_getR, w_putI, w_putZ, w_putJ, w_iald, w_zald, w_iast, w_zast, w_alen, w_sI, w_sJ, w_sV, w_vI, w_vJ, w_vV, w_tI, w_mmax, w_mmin, w_mabs, w_lmax, w_acopy, gL, sL, kl_i, kl_l, kl_r, kl_s, kl_m, qI_i, qJ_l, qA_r, qA_s, pI_i, pJ_l, pA_r, pS_s, pM_m, pV_v, c1_i, c1_r, c1_s, c1_m, cS_0, cS_i, cS_l, cS_r, cS_s, cS_m, pN, z_rc_r, zE1, zE2, zE3, true_and, and_true, Nat.zero_add, Nat.reduceAdd, Nat.reduceLeDiff, true_or, or_true, q0, qp4, qp5, qp8, qp9, qf0, qz0, qf1, qz1, qf2, qz2, qf3, qz3, qf6, qz6, qf7, qz7, qf10, qz10, qf11, qz11, qf12, qz12, qf13, qz13, qf14, qz14, k1o, k1m, k1f0, k1z0, k1f1, k1z1, k1f2, k1z2, k1f3, k1z3, k1f4, k1z4, k1f5, k1z5, k1f6, k1z6, k1f7, k1z7, k1r0, k1r1, k1r2, k1r3, k1r4, k1r5, k1r6, k1w, k109, k109a, k109b, k109c, k109d, k109e, k109f, k109g, kr110, kr112, kr114, kr116, kr118, kr120, kr122]
      refine ⟨fun q => absurd q (by omega), fun _ => ⟨⟨by omega, by omega⟩, ?_⟩⟩
      refine c_Row_get p114 (by omega) (by omega) ⟨⟨by omega, by omega⟩, ?_⟩
      refine c_Row_get p116 (by omega) (by omega) ?_
      have e1 : D 115 (max 0 (t - x)) = f (t - x).toNat := by
        rw [show max 0 (t - x) = ((t - x).toNat : Int) by omega]
        exact hf _ (by omega)
      have e2 : D 117 (max 0 (t - y)) = g (t - y).toNat := by
        rw [show max 0 (t - y) = ((t - y).toNat : Int) by omega]
        exact hg _ (by omega)
      rw [e1, e2]
      refine ⟨fun q => ⟨⟨by omega, by omega⟩, ih (t + 1) _ _ (by omega) (by omega) (by omega) fun u u0 u1 => ?_⟩, fun q => ?_⟩
      · by_cases e : u = t
        · rw [e]; exact q
        · exact hn u u0 (by omega)
      · rw [zFst_of t0 (Classical.not_not.mp q) hn (by omega)] at hP
        exact hP
  refine e_X5_firstMeeting ?_
  simp only [tX5_firstMeeting_0, w_ic, w_lc, w_lds, w_ild, w_lld, w_ald, w_ist, w_lst, w_ast, w_iinc, w_iadd, w_isub, w_imul, w_idiv, w_irem, w_iand, w_ior, w_ixor, w_ishl, w_ishr, w_iushr, w_ineg, w_ladd, w_lsub, w_lmul, w_ldiv, w_lrem, w_lcmp, w_i2l, w_l2i, w_dup, w_pop, w_dup2, w_ieq, w_zeq, w_ine, w_zne, w_ilt, w_zlt, w_ige, w_zge, w_igt, w_zgt, w_ile, w_zle, w_cut, w_tsw, zsw, w_iret, w_zret, w_lret, w_vret, w_nret, w_getI, w_getJ, w_getR, w_putI, w_putZ, w_putJ, w_iald, w_zald, w_iast, w_zast, w_alen, w_sI, w_sJ, w_sV, w_vI, w_vJ, w_vV, w_tI, w_mmax, w_mmin, w_mabs, w_lmax, w_acopy, gL, sL, kl_i, kl_l, kl_r, kl_s, kl_m, qI_i, qJ_l, qA_r, qA_s, pI_i, pJ_l, pA_r, pS_s, pM_m, pV_v, c1_i, c1_r, c1_s, c1_m, cS_0, cS_i, cS_l, cS_r, cS_s, cS_m, pN, z_rc_r, zE1, zE2, zE3, true_and, and_true, Nat.zero_add, Nat.reduceAdd, Nat.reduceLeDiff, true_or, or_true, q0, qp4, qp5, qp8, qp9, qf0, qz0, qf1, qz1, qf2, qz2, qf3, qz3, qf6, qz6, qf7, qz7, qf10, qz10, qf11, qz11, qf12, qz12, qf13, qz13, qf14, qz14, k1o, k1m, k1f0, k1z0, k1f1, k1z1, k1f2, k1z2, k1f3, k1z3, k1f4, k1z4, k1f5, k1z5, k1f6, k1z6, k1f7, k1z7, k1r0, k1r1, k1r2, k1r3, k1r4, k1r5, k1r6, k1w, k109, k109a, k109b, k109c, k109d, k109e, k109f, k109g, kr110, kr112, kr114, kr116, kr118, kr120, kr122]
  exact loop _ 0 _ _ rfl (by omega) (by omega) (fun u u0 u1 => by omega)
/-- paths of two goers in the two rows -/
theorem c_paths {D s : Mem} {i : Int} {P : Int → Mem → Prop} (hC : CS D s) (i0 : 0 ≤ i) (i1 : i < s 0 1) (hP : ∀ D', Fr 0 124 D D' → CS D' s → (∀ o, 116 ≤ o → D' o = D o) → (∀ m : Nat, m ≤ 60 → D' 115 m = sAt (s 0) i m) → P 0 D') : zC miX0_trace [zr 1, zi i, zr 114] D P := by
  refine c_trace bk1 p114 (by decide) hC.1.1 i0 i1 fun D' d1 d2 d3 => ?_
  have f1 : Fr 1 28 D (fun o => if o = 115 then D 115 else D' o) := fun o ho => by
    show (if o = 115 then D 115 else D' o) = D o
    by_cases e : o = 115
    · rw [if_pos e, e]
    · rw [if_neg e]; exact d1 o (by omega) e
  have c1 : CS (fun o => if o = 115 then D 115 else D' o) s := hC.same f1 (d2.out fun o _ _ => if_neg (by omega))
  refine hP D' (fun o ho => d1 o (by omega) (by omega)) (c1.scr fun o ho => (if_neg (by omega)).symm) (fun o ho => d1 o (by omega) (by omega)) d3
theorem c_paths2 {D s : Mem} {i : Int} {P : Int → Mem → Prop} (hC : CS D s) (i0 : 0 ≤ i) (i1 : i < s 0 1) (hP : ∀ D', Fr 0 124 D D' → CS D' s → (∀ o, 28 ≤ o → o ≠ 117 → D' o = D o) → (∀ m : Nat, m ≤ 60 → D' 117 m = sAt (s 0) i m) → P 0 D') : zC miX0_trace [zr 1, zi i, zr 116] D P := by
  refine c_trace bk1 p116 (by decide) hC.1.1 i0 i1 fun D' d1 d2 d3 => ?_
  have f1 : Fr 1 28 D (fun o => if o = 117 then D 117 else D' o) := fun o ho => by
    show (if o = 117 then D 117 else D' o) = D o
    by_cases e : o = 117
    · rw [if_pos e, e]
    · rw [if_neg e]; exact d1 o (by omega) e
  have c1 : CS (fun o => if o = 117 then D 117 else D' o) s := hC.same f1 (d2.out fun o _ _ => if_neg (by omega))
  refine hP D' (fun o ho => d1 o (by omega) (by omega)) (c1.scr fun o ho => (if_neg (by omega)).symm) (fun o a1 a2 => d1 o (by omega) a2) d3
noncomputable def r_where (s : Mem) (i m : Int) : Int × Mem := cIf ((0 ≤ i ∧ i < s 0 1) ∧ 0 ≤ m ∧ m ≤ 60) (sAt (s 0) i m.toNat, s) (-2, sRf s 3)
theorem v_where {n i m : Int} {s : Mem} (hW : WS n s) (hn : n < 1000000) : cOK miX5_where [zr 0, zi i, zi m] s (r_where s i m) := by
  intro D P hC hP
  have h := hC.1.1
  have i61 : ((61 : Nat) : Int) = 61 := rfl
  unfold r_where at hP
  refine e_X5_where ?_
  simp only [tX5_where_0, w_ic, w_lc, w_lds, w_ild, w_lld, w_ald, w_ist, w_lst, w_ast, w_iinc, w_iadd, w_isub, w_imul, w_idiv, w_irem, w_iand, w_ior, w_ixor, w_ishl, w_ishr, w_iushr, w_ineg, w_ladd, w_lsub, w_lmul, w_ldiv, w_lrem, w_lcmp, w_i2l, w_l2i, w_dup, w_pop, w_dup2, w_ieq, w_zeq, w_ine, w_zne, w_ilt, w_zlt, w_ige, w_zge, w_igt, w_zgt, w_ile, w_zle, w_cut, w_tsw, zsw, w_iret, w_zret, w_lret, w_vret, w_nret, w_getI, w_getJ, w_getR, w_putI, w_putZ, w_putJ, w_iald, w_zald, w_iast, w_zast, w_alen, w_sI, w_sJ, w_sV, w_vI, w_vJ, w_vV, w_tI, w_mmax, w_mmin, w_mabs, w_lmax, w_acopy, gL, sL, kl_i, kl_l, kl_r, kl_s, kl_m, qI_i, qJ_l, qA_r, qA_s, pI_i, pJ_l, pA_r, pS_s, pM_m, pV_v, c1_i, c1_r, c1_s, c1_m, cS_0, cS_i, cS_l, cS_r, cS_s, cS_m, pN, z_rc_r, zE1, zE2, zE3, true_and, and_true, Nat.zero_add, Nat.reduceAdd, Nat.reduceLeDiff, true_or, or_true, q0, qp4, qp5, qp8, qp9, qf0, qz0, qf1, qz1, qf2, qz2, qf3, qz3, qf6, qz6, qf7, qz7, qf10, qz10, qf11, qz11, qf12, qz12, qf13, qz13, qf14, qz14, k1o, k1m, k1f0, k1z0, k1f1, k1z1, k1f2, k1z2, k1f3, k1z3, k1f4, k1z4, k1f5, k1z5, k1f6, k1z6, k1f7, k1z7, k1r0, k1r1, k1r2, k1r3, k1r4, k1r5, k1r6, k1w, k109, k109a, k109b, k109c, k109d, k109e, k109f, k109g, kr110, kr112, kr114, kr116, kr118, kr120, kr122]
  refine c_Rows_has bk1.r1 (fun c0 c1 => ⟨fun w => absurd w (by decide), fun _ => ?_⟩) (fun q => ⟨fun _ => ?_, fun w => absurd rfl w⟩)
  · rw [h.2.1.1.2.1] at c1
    refine c_within (fun c2 c3 => ⟨fun _ => ?_, fun w => absurd (by decide) w⟩) (fun q => ⟨fun w => absurd rfl w, fun _ => ?_⟩)
    · rw [cIf_t ⟨⟨c0, c1⟩, c2, c3⟩] at hP
      refine c_paths hC c0 c1 fun D1 d1 d2 d3 d4 => ?_
      refine c_Row_get p114 (by omega) (by omega) ?_
      have := d4 m.toNat (by omega)
      rw [show ((m.toNat : Nat) : Int) = m by omega] at this
      rw [this]
      exact hP D1 d1 d2
    · rw [cIf_f (fun w => q w.2)] at hP
      exact c_bad hC hW hn hP
  · rw [h.2.1.1.2.1] at q
    rw [cIf_f (fun w => q w.1)] at hP
    exact c_bad hC hW hn hP
def zTwo (s : Mem) (i j : Int) : Prop := i ≠ j ∧ (0 ≤ i ∧ i < s 0 1) ∧ (0 ≤ j ∧ j < s 0 1)
theorem c_areTwo {D s : Mem} {i j : Int} {P : Int → Mem → Prop} (hC : CS D s) (h1 : zTwo s i j → P 1 D) (h0 : ¬ zTwo s i j → P 0 D) : zC miX5_areTwoGoers [zr 0, zi i, zi j] D P := by
  have h := hC.1.1
  unfold zTwo at h1 h0
  refine e_X5_areTwoGoers ?_
  simp only [tX5_areTwoGoers_0, w_ic, w_lc, w_lds, w_ild, w_lld, w_ald, w_ist, w_lst, w_ast, w_iinc, w_iadd, w_isub, w_imul, w_idiv, w_irem, w_iand, w_ior, w_ixor, w_ishl, w_ishr, w_iushr, w_ineg, w_ladd, w_lsub, w_lmul, w_ldiv, w_lrem, w_lcmp, w_i2l, w_l2i, w_dup, w_pop, w_dup2, w_ieq, w_zeq, w_ine, w_zne, w_ilt, w_zlt, w_ige, w_zge, w_igt, w_zgt, w_ile, w_zle, w_cut, w_tsw, zsw, w_iret, w_zret, w_lret, w_vret, w_nret, w_getI, w_getJ, w_getR, w_putI, w_putZ, w_putJ, w_iald, w_zald, w_iast, w_zast, w_alen, w_sI, w_sJ, w_sV, w_vI, w_vJ, w_vV, w_tI, w_mmax, w_mmin, w_mabs, w_lmax, w_acopy, gL, sL, kl_i, kl_l, kl_r, kl_s, kl_m, qI_i, qJ_l, qA_r, qA_s, pI_i, pJ_l, pA_r, pS_s, pM_m, pV_v, c1_i, c1_r, c1_s, c1_m, cS_0, cS_i, cS_l, cS_r, cS_s, cS_m, pN, z_rc_r, zE1, zE2, zE3, true_and, and_true, Nat.zero_add, Nat.reduceAdd, Nat.reduceLeDiff, true_or, or_true, q0, qp4, qp5, qp8, qp9, qf0, qz0, qf1, qz1, qf2, qz2, qf3, qz3, qf6, qz6, qf7, qz7, qf10, qz10, qf11, qz11, qf12, qz12, qf13, qz13, qf14, qz14, k1o, k1m, k1f0, k1z0, k1f1, k1z1, k1f2, k1z2, k1f3, k1z3, k1f4, k1z4, k1f5, k1z5, k1f6, k1z6, k1f7, k1z7, k1r0, k1r1, k1r2, k1r3, k1r4, k1r5, k1r6, k1w, k109, k109a, k109b, k109c, k109d, k109e, k109f, k109g, kr110, kr112, kr114, kr116, kr118, kr120, kr122]
  refine ⟨fun q => h0 (by omega), fun q => ?_⟩
  refine c_Rows_has bk1.r1 (fun c0 c1 => ⟨fun w => absurd w (by decide), fun _ => ?_⟩) (fun q2 => ⟨fun _ => h0 fun w => q2 (by rw [h.2.1.1.2.1]; exact w.2.1), fun w => absurd rfl w⟩)
  rw [h.2.1.1.2.1] at c1
  refine c_Rows_has bk1.r1 (fun c2 c3 => ⟨fun w => absurd w (by decide), fun _ => ?_⟩) (fun q2 => ⟨fun _ => h0 fun w => q2 (by rw [h.2.1.1.2.1]; exact w.2.2), fun w => absurd rfl w⟩)
  rw [h.2.1.1.2.1] at c3
  exact h1 ⟨q, ⟨c0, c1⟩, c2, c3⟩
noncomputable def r_meet (s : Mem) (i j : Int) : Int × Mem := cIf (zTwo s i j) (zFst (sMt (sAt (s 0) i) (sAt (s 0) j) 0 0) 61, s) (-2, sRf s 3)
theorem v_meet {n i j : Int} {s : Mem} (hW : WS n s) (hn : n < 1000000) : cOK miX5_meet [zr 0, zi i, zi j] s (r_meet s i j) := by
  intro D P hC hP
  unfold r_meet at hP
  refine e_X5_meet ?_
  simp only [tX5_meet_0, w_ic, w_lc, w_lds, w_ild, w_lld, w_ald, w_ist, w_lst, w_ast, w_iinc, w_iadd, w_isub, w_imul, w_idiv, w_irem, w_iand, w_ior, w_ixor, w_ishl, w_ishr, w_iushr, w_ineg, w_ladd, w_lsub, w_lmul, w_ldiv, w_lrem, w_lcmp, w_i2l, w_l2i, w_dup, w_pop, w_dup2, w_ieq, w_zeq, w_ine, w_zne, w_ilt, w_zlt, w_ige, w_zge, w_igt, w_zgt, w_ile, w_zle, w_cut, w_tsw, zsw, w_iret, w_zret, w_lret, w_vret, w_nret, w_getI, w_getJ, w_getR, w_putI, w_putZ, w_putJ, w_iald, w_zald, w_iast, w_zast, w_alen, w_sI, w_sJ, w_sV, w_vI, w_vJ, w_vV, w_tI, w_mmax, w_mmin, w_mabs, w_lmax, w_acopy, gL, sL, kl_i, kl_l, kl_r, kl_s, kl_m, qI_i, qJ_l, qA_r, qA_s, pI_i, pJ_l, pA_r, pS_s, pM_m, pV_v, c1_i, c1_r, c1_s, c1_m, cS_0, cS_i, cS_l, cS_r, cS_s, cS_m, pN, z_rc_r, zE1, zE2, zE3, true_and, and_true, Nat.zero_add, Nat.reduceAdd, Nat.reduceLeDiff, true_or, or_true, q0, qp4, qp5, qp8, qp9, qf0, qz0, qf1, qz1, qf2, qz2, qf3, qz3, qf6, qz6, qf7, qz7, qf10, qz10, qf11, qz11, qf12, qz12, qf13, qz13, qf14, qz14, k1o, k1m, k1f0, k1z0, k1f1, k1z1, k1f2, k1z2, k1f3, k1z3, k1f4, k1z4, k1f5, k1z5, k1f6, k1z6, k1f7, k1z7, k1r0, k1r1, k1r2, k1r3, k1r4, k1r5, k1r6, k1w, k109, k109a, k109b, k109c, k109d, k109e, k109f, k109g, kr110, kr112, kr114, kr116, kr118, kr120, kr122]
  refine c_areTwo hC (fun h => ⟨fun _ => ?_, fun w => absurd (by decide) w⟩) (fun q => ⟨fun w => absurd rfl w, fun _ => ?_⟩)
  · rw [cIf_t h] at hP
    refine c_paths hC h.2.1.1 h.2.1.2 fun D1 d1 d2 d3 d4 => ?_
    refine c_paths2 d2 h.2.2.1 h.2.2.2 fun D2 d5 d6 d7 d8 => ?_
    refine c_firstMeeting (f := sAt (s 0) i) (g := sAt (s 0) j) (fun m hm => ?_) d8 (by decide) (by decide) (by decide) (by decide) (by decide) (by decide) (hP D2 (d1.trans d5) d6)
    rw [d7 115 (by decide) (by decide)]
    exact d4 m hm
  · rw [cIf_f q] at hP
    exact c_bad hC hW hn hP
noncomputable def r_waits (s : Mem) (i j w : Int) : Int × Mem := cIf (zTwo s i j ∧ 0 ≤ w ∧ w ≤ 1) (zFst (fun x => zFst (sMt (sAt (s 0) i) (sAt (s 0) j) x 0) 61 ≠ -1 ↔ w = 1) 21, s) (-2, sRf s 3)
theorem v_waits {n i j w : Int} {s : Mem} (hW : WS n s) (hn : n < 1000000) : cOK miX5_waits [zr 0, zi i, zi j, zi w] s (r_waits s i j w) := by
  intro D P hC hP
  unfold r_waits at hP
  refine e_X5_waits ?_
  simp only [tX5_waits_0, w_ic, w_lc, w_lds, w_ild, w_lld, w_ald, w_ist, w_lst, w_ast, w_iinc, w_iadd, w_isub, w_imul, w_idiv, w_irem, w_iand, w_ior, w_ixor, w_ishl, w_ishr, w_iushr, w_ineg, w_ladd, w_lsub, w_lmul, w_ldiv, w_lrem, w_lcmp, w_i2l, w_l2i, w_dup, w_pop, w_dup2, w_ieq, w_zeq, w_ine, w_zne, w_ilt, w_zlt, w_ige, w_zge, w_igt, w_zgt, w_ile, w_zle, w_cut, w_tsw, zsw, w_iret, w_zret, w_lret, w_vret, w_nret, w_getI, w_getJ, w_getR, w_putI, w_putZ, w_putJ, w_iald, w_zald, w_iast, w_zast, w_alen, w_sI, w_sJ, w_sV, w_vI, w_vJ, w_vV, w_tI, w_mmax, w_mmin, w_mabs, w_lmax, w_acopy, gL, sL, kl_i, kl_l, kl_r, kl_s, kl_m, qI_i, qJ_l, qA_r, qA_s, pI_i, pJ_l, pA_r, pS_s, pM_m, pV_v, c1_i, c1_r, c1_s, c1_m, cS_0, cS_i, cS_l, cS_r, cS_s, cS_m, pN, z_rc_r, zE1, zE2, zE3, true_and, and_true, Nat.zero_add, Nat.reduceAdd, Nat.reduceLeDiff, true_or, or_true, q0, qp4, qp5, qp8, qp9, qf0, qz0, qf1, qz1, qf2, qz2, qf3, qz3, qf6, qz6, qf7, qz7, qf10, qz10, qf11, qz11, qf12, qz12, qf13, qz13, qf14, qz14, k1o, k1m, k1f0, k1z0, k1f1, k1z1, k1f2, k1z2, k1f3, k1z3, k1f4, k1z4, k1f5, k1z5, k1f6, k1z6, k1f7, k1z7, k1r0, k1r1, k1r2, k1r3, k1r4, k1r5, k1r6, k1w, k109, k109a, k109b, k109c, k109d, k109e, k109f, k109g, kr110, kr112, kr114, kr116, kr118, kr120, kr122]
  refine c_areTwo hC (fun h => ⟨fun w => absurd w (by decide), fun _ => ?_⟩) (fun q => ⟨fun _ => ?_, fun w => absurd rfl w⟩)
  · refine c_within (fun c2 c3 => ⟨fun _ => ?_, fun w => absurd (by decide) w⟩) (fun q => ⟨fun w => absurd rfl w, fun _ => ?_⟩)
    · rw [cIf_t ⟨h, c2, c3⟩] at hP
      refine c_paths hC h.2.1.1 h.2.1.2 fun D1 d1 d2 d3 d4 => ?_
      refine c_paths2 d2 h.2.2.1 h.2.2.2 fun D2 d5 d6 d7 d8 => ?_
      have hf : ∀ m : Nat, m ≤ 60 → D2 115 m = sAt (s 0) i m := fun m hm => by
        rw [d7 115 (by decide) (by decide)]
        exact d4 m hm
      have hP2 := fun (x : Int) (e : zFst (fun x => zFst (sMt (sAt (s 0) i) (sAt (s 0) j) x 0) 61 ≠ -1 ↔ w = 1) 21 = x) => e ▸ hP D2 (d1.trans d5) d6
      have loop : ∀ (r : Nat) (x : Int) (v : AV), (21 - x).toNat = r → 0 ≤ x → x ≤ 21 → (∀ u, 0 ≤ u → u < x → ¬ (zFst (sMt (sAt (s 0) i) (sAt (s 0) j) u 0) 61 ≠ -1 ↔ w = 1)) → zW miX5_waits P 50 [zr 0, zi i, zi j, zi w, zi x, v] D2 := by
        intro r
        induction r with
        | zero =>
          intro x v hr x0 x1 hu
          refine sX5_waits_50 _ _ _ _ _ ?_
          simp only [tX5_waits_50, w_ic, w_lc, w_lds, w_ild, w_lld, w_ald, w_ist, w_lst, w_ast, w_iinc, w_iadd, w_isub, w_imul, w_idiv, w_irem, w_iand, w_ior, w_ixor, w_ishl, w_ishr, w_iushr, w_ineg, w_ladd, w_lsub, w_lmul, w_ldiv, w_lrem, w_lcmp, w_i2l, w_l2i, w_dup, w_pop, w_dup2, w_ieq, w_zeq, w_ine, w_zne, w_ilt, w_zlt, w_ige, w_zge, w_igt, w_zgt, w_ile, w_zle, w_cut, w_tsw, zsw, w_iret, w_zret, w_lret, w_vret, w_nret, w_getI, w_getJ, w_getR, w_putI, w_putZ, w_putJ, w_iald, w_zald, w_iast, w_zast, w_alen, w_sI, w_sJ, w_sV, w_vI, w_vJ, w_vV, w_tI, w_mmax, w_mmin, w_mabs, w_lmax, w_acopy, gL, sL, kl_i, kl_l, kl_r, kl_s, kl_m, qI_i, qJ_l, qA_r, qA_s, pI_i, pJ_l, pA_r, pS_s, pM_m, pV_v, c1_i, c1_r, c1_s, c1_m, cS_0, cS_i, cS_l, cS_r, cS_s, cS_m, pN, z_rc_r, zE1, zE2, zE3, true_and, and_true, Nat.zero_add, Nat.reduceAdd, Nat.reduceLeDiff, true_or, or_true, q0, qp4, qp5, qp8, qp9, qf0, qz0, qf1, qz1, qf2, qz2, qf3, qz3, qf6, qz6, qf7, qz7, qf10, qz10, qf11, qz11, qf12, qz12, qf13, qz13, qf14, qz14, k1o, k1m, k1f0, k1z0, k1f1, k1z1, k1f2, k1z2, k1f3, k1z3, k1f4, k1z4, k1f5, k1z5, k1f6, k1z6, k1f7, k1z7, k1r0, k1r1, k1r2, k1r3, k1r4, k1r5, k1r6, k1w, k109, k109a, k109b, k109c, k109d, k109e, k109f, k109g, kr110, kr112, kr114, kr116, kr118, kr120, kr122]
          exact ⟨fun _ => hP2 _ (zFst_no fun u u0 u1 => hu u u0 (by omega)), fun q => absurd (by omega) q⟩
        | succ r ih =>
          intro x v hr x0 x1 hu
          refine sX5_waits_50 _ _ _ _ _ ?_
          simp only [tX5_waits_50, w_ic, w_lc, w_lds, w_ild, w_lld, w_ald, w_ist, w_lst, w_ast, w_iinc, w_iadd, w_isub, w_imul, w_idiv, w_irem, w_iand, w_ior, w_ixor, w_ishl, w_ishr, w_iushr, w_ineg, w_ladd, w_lsub, w_lmul, w_ldiv, w_lrem, w_lcmp, w_i2l, w_l2i, w_dup, w_pop, w_dup2, w_ieq, w_zeq, w_ine, w_zne, w_ilt, w_zlt, w_ige, w_zge, w_igt, w_zgt, w_ile, w_zle, w_cut, w_tsw, zsw, w_iret, w_zret, w_lret, w_vret, w_nret, w_getI, w_getJ, w_getR, w_putI, w_putZ, w_putJ, w_iald, w_zald, w_iast, w_zast, w_alen, w_sI, w_sJ, w_sV, w_vI, w_vJ, w_vV, w_tI, w_mmax, w_mmin, w_mabs, w_lmax, w_acopy, gL, sL, kl_i, kl_l, kl_r, kl_s, kl_m, qI_i, qJ_l, qA_r, qA_s, pI_i, pJ_l, pA_r, pS_s, pM_m, pV_v, c1_i, c1_r, c1_s, c1_m, cS_0, cS_i, cS_l, cS_r, cS_s, cS_m, pN, z_rc_r, zE1, zE2, zE3, true_and, and_true, Nat.zero_add, Nat.reduceAdd, Nat.reduceLeDiff, true_or, or_true, q0, qp4, qp5, qp8, qp9, qf0, qz0, qf1, qz1, qf2, qz2, qf3, qz3, qf6, qz6, qf7, qz7, qf10, qz10, qf11, qz11, qf12, qz12, qf13, qz13, qf14, qz14, k1o, k1m, k1f0, k1z0, k1f1, k1z1, k1f2, k1z2, k1f3, k1z3, k1f4, k1z4, k1f5, k1z5, k1f6, k1z6, k1f7, k1z7, k1r0, k1r1, k1r2, k1r3, k1r4, k1r5, k1r6, k1w, k109, k109a, k109b, k109c, k109d, k109e, k109f, k109g, kr110, kr112, kr114, kr116, kr118, kr120, kr122]
          refine ⟨fun q => absurd q (by omega), fun _ => ?_⟩
          have hit : (zFst (sMt (sAt (s 0) i) (sAt (s 0) j) x 0) 61 ≠ -1 ↔ w = 1) → P x D2 := fun q => hP2 x (zFst_of (p := fun x => zFst (sMt (sAt (s 0) i) (sAt (s 0) j) x 0) 61 ≠ -1 ↔ w = 1) x0 q hu (by omega))
          have miss : ¬ (zFst (sMt (sAt (s 0) i) (sAt (s 0) j) x 0) 61 ≠ -1 ↔ w = 1) → ∀ v : AV, zR (x + 1) ∧ zW miX5_waits P 50 [zr 0, zi i, zi j, zi w, zi (x + 1), v] D2 := fun q v => ⟨⟨by omega, by omega⟩, ih (x + 1) v (by omega) (by omega) (by omega) fun u u0 u1 => by
            by_cases e : u = x
            · rw [e]; exact q
            · exact hu u u0 (by omega)⟩
          refine c_firstMeeting (f := sAt (s 0) i) (g := sAt (s 0) j) hf d8 x0 (by omega) (by decide) (by decide) (by decide) (by decide) ?_
          rw [show ((60 : Int) + 1).toNat = 61 from rfl]
          refine ⟨fun q => ⟨fun q2 => ⟨fun z => absurd trivial z, fun _ => hit ⟨fun a => absurd q a, fun a => absurd a q2⟩⟩, fun q2 => ⟨fun _ => miss (fun h => absurd q (h.mpr (by omega))) _, fun z => absurd (by decide) z⟩⟩, fun q => ⟨fun q2 => ⟨fun _ => miss (fun h => q2 (h.mp q)) _, fun z => absurd (by decide) z⟩, fun q2 => ⟨fun z => absurd trivial z, fun _ => hit ⟨fun _ => by omega, fun _ => q⟩⟩⟩⟩
      exact loop _ 0 _ rfl (by decide) (by decide) (fun u u0 u1 => by omega)
    · rw [cIf_f (fun w => q w.2)] at hP
      exact c_bad hC hW hn hP
  · rw [cIf_f (fun w => q w.1)] at hP
    exact c_bad hC hW hn hP
noncomputable def r_sound (s : Mem) (k m x : Int) : Int × Mem := cIf ((0 ≤ k ∧ k < s 0 2) ∧ (0 ≤ m ∧ m ≤ 30) ∧ 1 ≤ x ∧ x ≤ 20) (cIf (s 0 54 = 5) (-4, sRf s 5) (s 0 54 + 1, sU s 0 (sAddS (s 0) k m x))) (-2, sRf s 3)
theorem v_sound {n k m x : Int} {s : Mem} (hW : WS n s) (hn : n < 1000000) : cOK miX5_sound [zr 0, zi k, zi m, zi x] s (r_sound s k m x) := by
  intro D P hC hP
  have h := hC.1.1
  have n4 := h.2.2.1.n4
  unfold r_sound at hP
  have bad : ¬ ((0 ≤ k ∧ k < s 0 2) ∧ (0 ≤ m ∧ m ≤ 30) ∧ 1 ≤ x ∧ x ≤ 20) → zC miX5_bad [zr 0] D P := by
    intro q
    rw [cIf_f q] at hP
    exact c_bad hC hW hn hP
  refine e_X5_sound ?_
  simp only [tX5_sound_0, w_ic, w_lc, w_lds, w_ild, w_lld, w_ald, w_ist, w_lst, w_ast, w_iinc, w_iadd, w_isub, w_imul, w_idiv, w_irem, w_iand, w_ior, w_ixor, w_ishl, w_ishr, w_iushr, w_ineg, w_ladd, w_lsub, w_lmul, w_ldiv, w_lrem, w_lcmp, w_i2l, w_l2i, w_dup, w_pop, w_dup2, w_ieq, w_zeq, w_ine, w_zne, w_ilt, w_zlt, w_ige, w_zge, w_igt, w_zgt, w_ile, w_zle, w_cut, w_tsw, zsw, w_iret, w_zret, w_lret, w_vret, w_nret, w_getI, w_getJ, w_getR, w_putI, w_putZ, w_putJ, w_iald, w_zald, w_iast, w_zast, w_alen, w_sI, w_sJ, w_sV, w_vI, w_vJ, w_vV, w_tI, w_mmax, w_mmin, w_mabs, w_lmax, w_acopy, gL, sL, kl_i, kl_l, kl_r, kl_s, kl_m, qI_i, qJ_l, qA_r, qA_s, pI_i, pJ_l, pA_r, pS_s, pM_m, pV_v, c1_i, c1_r, c1_s, c1_m, cS_0, cS_i, cS_l, cS_r, cS_s, cS_m, pN, z_rc_r, zE1, zE2, zE3, true_and, and_true, Nat.zero_add, Nat.reduceAdd, Nat.reduceLeDiff, true_or, or_true, q0, qp4, qp5, qp8, qp9, qf0, qz0, qf1, qz1, qf2, qz2, qf3, qz3, qf6, qz6, qf7, qz7, qf10, qz10, qf11, qz11, qf12, qz12, qf13, qz13, qf14, qz14, k1o, k1m, k1f0, k1z0, k1f1, k1z1, k1f2, k1z2, k1f3, k1z3, k1f4, k1z4, k1f5, k1z5, k1f6, k1z6, k1f7, k1z7, k1r0, k1r1, k1r2, k1r3, k1r4, k1r5, k1r6, k1w, k109, k109a, k109b, k109c, k109d, k109e, k109f, k109g, kr110, kr112, kr114, kr116, kr118, kr120, kr122]
  refine c_Rows_has bk1.r2 (fun c0 c1 => ⟨fun w => absurd w (by decide), fun _ => ?_⟩) (fun q => ⟨fun _ => ?_, fun w => absurd rfl w⟩)
  · rw [h.2.1.1.2.2.1] at c1
    refine c_within (fun c2 c3 => ⟨fun w => absurd w (by decide), fun _ => ?_⟩) (fun q => ⟨fun _ => bad fun w => q w.2.1, fun w => absurd rfl w⟩)
    refine c_within (fun c4 c5 => ⟨fun _ => ?_, fun w => absurd (by decide) w⟩) (fun q => ⟨fun w => absurd rfl w, fun _ => bad fun w => q w.2.2⟩)
    rw [cIf_t ⟨⟨c0, c1⟩, ⟨c2, c3⟩, c4, c5⟩] at hP
    refine c_Rows_isFull bk1.r3 (fun q2 => ⟨fun w => absurd w (by decide), fun _ => ?_⟩) (fun q2 => ⟨fun _ => ?_, fun w => absurd rfl w⟩)
    · rw [h.1.2.2.2.1.1, h.2.1.s.1] at q2
      rw [cIf_t (by omega)] at hP
      exact c_full hC hW hn hP
    · rw [h.1.2.2.2.1.1, h.2.1.s.1] at q2
      rw [cIf_f (by omega)] at hP
      refine c_addSound bk1 h (by omega) ⟨c0, c1⟩ ⟨c2, c3⟩ ⟨c4, c5⟩ fun D1 d1 d2 => ?_
      refine c_Rows_size bk1.r3 ?_
      rw [d2.2.1.s.1, (sAddS_e n4.1).1]
      exact hP D1 (d1.wide (by omega) (by omega)) (hC.now (d1.wide (by omega) (by omega)) d2)
  · rw [h.2.1.1.2.2.1] at q
    exact bad fun w => q w.1
noncomputable def r_note (s : Mem) (k f m x : Int) : Int × Mem := cIf ((0 ≤ k ∧ k < s 0 1) ∧ (0 ≤ f ∧ f ≤ 4) ∧ (0 ≤ m ∧ m ≤ 99) ∧ 0 ≤ x ∧ x ≤ 20) (cIf (s 0 70 = 6) (-4, sRf s 5) (s 0 70 + 1, sU s 0 (sAddN (s 0) k f m x))) (-2, sRf s 3)
theorem v_note {n k f m x : Int} {s : Mem} (hW : WS n s) (hn : n < 1000000) : cOK miX5_note [zr 0, zi k, zi f, zi m, zi x] s (r_note s k f m x) := by
  intro D P hC hP
  have h := hC.1.1
  have n4 := h.2.2.1.n5
  unfold r_note at hP
  have bad : ¬ ((0 ≤ k ∧ k < s 0 1) ∧ (0 ≤ f ∧ f ≤ 4) ∧ (0 ≤ m ∧ m ≤ 99) ∧ 0 ≤ x ∧ x ≤ 20) → zC miX5_bad [zr 0] D P := by
    intro q
    rw [cIf_f q] at hP
    exact c_bad hC hW hn hP
  refine e_X5_note ?_
  simp only [tX5_note_0, w_ic, w_lc, w_lds, w_ild, w_lld, w_ald, w_ist, w_lst, w_ast, w_iinc, w_iadd, w_isub, w_imul, w_idiv, w_irem, w_iand, w_ior, w_ixor, w_ishl, w_ishr, w_iushr, w_ineg, w_ladd, w_lsub, w_lmul, w_ldiv, w_lrem, w_lcmp, w_i2l, w_l2i, w_dup, w_pop, w_dup2, w_ieq, w_zeq, w_ine, w_zne, w_ilt, w_zlt, w_ige, w_zge, w_igt, w_zgt, w_ile, w_zle, w_cut, w_tsw, zsw, w_iret, w_zret, w_lret, w_vret, w_nret, w_getI, w_getJ, w_getR, w_putI, w_putZ, w_putJ, w_iald, w_zald, w_iast, w_zast, w_alen, w_sI, w_sJ, w_sV, w_vI, w_vJ, w_vV, w_tI, w_mmax, w_mmin, w_mabs, w_lmax, w_acopy, gL, sL, kl_i, kl_l, kl_r, kl_s, kl_m, qI_i, qJ_l, qA_r, qA_s, pI_i, pJ_l, pA_r, pS_s, pM_m, pV_v, c1_i, c1_r, c1_s, c1_m, cS_0, cS_i, cS_l, cS_r, cS_s, cS_m, pN, z_rc_r, zE1, zE2, zE3, true_and, and_true, Nat.zero_add, Nat.reduceAdd, Nat.reduceLeDiff, true_or, or_true, q0, qp4, qp5, qp8, qp9, qf0, qz0, qf1, qz1, qf2, qz2, qf3, qz3, qf6, qz6, qf7, qz7, qf10, qz10, qf11, qz11, qf12, qz12, qf13, qz13, qf14, qz14, k1o, k1m, k1f0, k1z0, k1f1, k1z1, k1f2, k1z2, k1f3, k1z3, k1f4, k1z4, k1f5, k1z5, k1f6, k1z6, k1f7, k1z7, k1r0, k1r1, k1r2, k1r3, k1r4, k1r5, k1r6, k1w, k109, k109a, k109b, k109c, k109d, k109e, k109f, k109g, kr110, kr112, kr114, kr116, kr118, kr120, kr122]
  refine c_Rows_has bk1.r1 (fun c0 c1 => ⟨fun w => absurd w (by decide), fun _ => ?_⟩) (fun q => ⟨fun _ => ?_, fun w => absurd rfl w⟩)
  · rw [h.2.1.1.2.1] at c1
    refine c_within (fun c2 c3 => ⟨fun _ => ?_, fun w => absurd (by decide) w⟩) (fun q => ⟨fun w => absurd rfl w, fun _ => bad fun w => q w.2.1⟩)
    refine c_within (fun c6 c7 => ⟨fun w => absurd w (by decide), fun _ => ?_⟩) (fun q => ⟨fun _ => bad fun w => q w.2.2.1, fun w => absurd rfl w⟩)
    refine c_within (fun c4 c5 => ⟨fun _ => ?_, fun w => absurd (by decide) w⟩) (fun q => ⟨fun w => absurd rfl w, fun _ => bad fun w => q w.2.2.2⟩)
    rw [cIf_t ⟨⟨c0, c1⟩, ⟨c2, c3⟩, ⟨c6, c7⟩, c4, c5⟩] at hP
    refine c_Rows_isFull bk1.r4 (fun q2 => ⟨fun w => absurd w (by decide), fun _ => ?_⟩) (fun q2 => ⟨fun _ => ?_, fun w => absurd rfl w⟩)
    · rw [h.1.2.2.2.2.1.1, h.2.1.n.1] at q2
      rw [cIf_t (by omega)] at hP
      exact c_full hC hW hn hP
    · rw [h.1.2.2.2.2.1.1, h.2.1.n.1] at q2
      rw [cIf_f (by omega)] at hP
      refine c_addNote bk1 h (by omega) ⟨c0, c1⟩ ⟨c2, c3⟩ ⟨c6, c7⟩ ⟨c4, c5⟩ fun D1 d1 d2 => ?_
      refine c_Rows_size bk1.r4 ?_
      rw [d2.2.1.n.1, (sAddN_e n4.1).1]
      exact hP D1 (d1.wide (by omega) (by omega)) (hC.now (d1.wide (by omega) (by omega)) d2)
  · rw [h.2.1.1.2.1] at q
    exact bad fun w => q w.1
noncomputable def r_mark (s : Mem) (k x d v : Int) : Int × Mem := cIf ((0 ≤ k ∧ k < s 0 2) ∧ (0 ≤ x ∧ x ≤ 20) ∧ (0 ≤ d ∧ d ≤ 7) ∧ 0 ≤ v ∧ v ≤ 1) (cIf (s 0 95 = 6) (-4, sRf s 5) (s 0 95 + 1, sU s 0 (sAddM (s 0) k x d v))) (-2, sRf s 3)
theorem v_mark {n k f m x : Int} {s : Mem} (hW : WS n s) (hn : n < 1000000) : cOK miX5_mark [zr 0, zi k, zi f, zi m, zi x] s (r_mark s k f m x) := by
  intro D P hC hP
  have h := hC.1.1
  have n4 := h.2.2.1.n6
  unfold r_mark at hP
  have bad : ¬ ((0 ≤ k ∧ k < s 0 2) ∧ (0 ≤ f ∧ f ≤ 20) ∧ (0 ≤ m ∧ m ≤ 7) ∧ 0 ≤ x ∧ x ≤ 1) → zC miX5_bad [zr 0] D P := by
    intro q
    rw [cIf_f q] at hP
    exact c_bad hC hW hn hP
  refine e_X5_mark ?_
  simp only [tX5_mark_0, w_ic, w_lc, w_lds, w_ild, w_lld, w_ald, w_ist, w_lst, w_ast, w_iinc, w_iadd, w_isub, w_imul, w_idiv, w_irem, w_iand, w_ior, w_ixor, w_ishl, w_ishr, w_iushr, w_ineg, w_ladd, w_lsub, w_lmul, w_ldiv, w_lrem, w_lcmp, w_i2l, w_l2i, w_dup, w_pop, w_dup2, w_ieq, w_zeq, w_ine, w_zne, w_ilt, w_zlt, w_ige, w_zge, w_igt, w_zgt, w_ile, w_zle, w_cut, w_tsw, zsw, w_iret, w_zret, w_lret, w_vret, w_nret, w_getI, w_getJ, w_getR, w_putI, w_putZ, w_putJ, w_iald, w_zald, w_iast, w_zast, w_alen, w_sI, w_sJ, w_sV, w_vI, w_vJ, w_vV, w_tI, w_mmax, w_mmin, w_mabs, w_lmax, w_acopy, gL, sL, kl_i, kl_l, kl_r, kl_s, kl_m, qI_i, qJ_l, qA_r, qA_s, pI_i, pJ_l, pA_r, pS_s, pM_m, pV_v, c1_i, c1_r, c1_s, c1_m, cS_0, cS_i, cS_l, cS_r, cS_s, cS_m, pN, z_rc_r, zE1, zE2, zE3, true_and, and_true, Nat.zero_add, Nat.reduceAdd, Nat.reduceLeDiff, true_or, or_true, q0, qp4, qp5, qp8, qp9, qf0, qz0, qf1, qz1, qf2, qz2, qf3, qz3, qf6, qz6, qf7, qz7, qf10, qz10, qf11, qz11, qf12, qz12, qf13, qz13, qf14, qz14, k1o, k1m, k1f0, k1z0, k1f1, k1z1, k1f2, k1z2, k1f3, k1z3, k1f4, k1z4, k1f5, k1z5, k1f6, k1z6, k1f7, k1z7, k1r0, k1r1, k1r2, k1r3, k1r4, k1r5, k1r6, k1w, k109, k109a, k109b, k109c, k109d, k109e, k109f, k109g, kr110, kr112, kr114, kr116, kr118, kr120, kr122]
  refine c_Rows_has bk1.r2 (fun c0 c1 => ⟨fun w => absurd w (by decide), fun _ => ?_⟩) (fun q => ⟨fun _ => ?_, fun w => absurd rfl w⟩)
  · rw [h.2.1.1.2.2.1] at c1
    refine c_within (fun c2 c3 => ⟨fun _ => ?_, fun w => absurd (by decide) w⟩) (fun q => ⟨fun w => absurd rfl w, fun _ => bad fun w => q w.2.1⟩)
    refine c_within (fun c6 c7 => ⟨fun w => absurd w (by decide), fun _ => ?_⟩) (fun q => ⟨fun _ => bad fun w => q w.2.2.1, fun w => absurd rfl w⟩)
    refine c_within (fun c4 c5 => ⟨fun _ => ?_, fun w => absurd (by decide) w⟩) (fun q => ⟨fun w => absurd rfl w, fun _ => bad fun w => q w.2.2.2⟩)
    rw [cIf_t ⟨⟨c0, c1⟩, ⟨c2, c3⟩, ⟨c6, c7⟩, c4, c5⟩] at hP
    refine c_Rows_isFull bk1.r5 (fun q2 => ⟨fun w => absurd w (by decide), fun _ => ?_⟩) (fun q2 => ⟨fun _ => ?_, fun w => absurd rfl w⟩)
    · rw [h.1.2.2.2.2.2.1.1, h.2.1.k.1] at q2
      rw [cIf_t (by omega)] at hP
      exact c_full hC hW hn hP
    · rw [h.1.2.2.2.2.2.1.1, h.2.1.k.1] at q2
      rw [cIf_f (by omega)] at hP
      refine c_addMark bk1 h (by omega) ⟨c0, c1⟩ ⟨c2, c3⟩ ⟨c6, c7⟩ (by unfold z01; omega) fun D1 d1 d2 => ?_
      refine c_Rows_size bk1.r5 ?_
      rw [d2.2.1.k.1, (sAddM_e n4.1).1]
      exact hP D1 (d1.wide (by omega) (by omega)) (hC.now (d1.wide (by omega) (by omega)) d2)
  · rw [h.2.1.1.2.2.1] at q
    exact bad fun w => q w.1
noncomputable def r_forget (s : Mem) (w : Int) : Int × Mem := cIf (w = 0) (s 0 54, sU s 0 (zA (s 0) 54 0)) (cIf (w = 1) (s 0 70, sU s 0 (zA (s 0) 70 0)) (cIf (w = 2) (s 0 95, sU s 0 (zA (s 0) 95 0)) (-2, sRf s 3)))
theorem v_forget {n w : Int} {s : Mem} (hW : WS n s) (hn : n < 1000000) : cOK miX5_forget [zr 0, zi w] s (r_forget s w) := by
  intro D P hC hP
  have h := hC.1.1
  unfold r_forget at hP
  refine e_X5_forget ?_
  simp only [tX5_forget_0, w_ic, w_lc, w_lds, w_ild, w_lld, w_ald, w_ist, w_lst, w_ast, w_iinc, w_iadd, w_isub, w_imul, w_idiv, w_irem, w_iand, w_ior, w_ixor, w_ishl, w_ishr, w_iushr, w_ineg, w_ladd, w_lsub, w_lmul, w_ldiv, w_lrem, w_lcmp, w_i2l, w_l2i, w_dup, w_pop, w_dup2, w_ieq, w_zeq, w_ine, w_zne, w_ilt, w_zlt, w_ige, w_zge, w_igt, w_zgt, w_ile, w_zle, w_cut, w_tsw, zsw, w_iret, w_zret, w_lret, w_vret, w_nret, w_getI, w_getJ, w_getR, w_putI, w_putZ, w_putJ, w_iald, w_zald, w_iast, w_zast, w_alen, w_sI, w_sJ, w_sV, w_vI, w_vJ, w_vV, w_tI, w_mmax, w_mmin, w_mabs, w_lmax, w_acopy, gL, sL, kl_i, kl_l, kl_r, kl_s, kl_m, qI_i, qJ_l, qA_r, qA_s, pI_i, pJ_l, pA_r, pS_s, pM_m, pV_v, c1_i, c1_r, c1_s, c1_m, cS_0, cS_i, cS_l, cS_r, cS_s, cS_m, pN, z_rc_r, zE1, zE2, zE3, true_and, and_true, Nat.zero_add, Nat.reduceAdd, Nat.reduceLeDiff, true_or, or_true, q0, qp4, qp5, qp8, qp9, qf0, qz0, qf1, qz1, qf2, qz2, qf3, qz3, qf6, qz6, qf7, qz7, qf10, qz10, qf11, qz11, qf12, qz12, qf13, qz13, qf14, qz14, k1o, k1m, k1f0, k1z0, k1f1, k1z1, k1f2, k1z2, k1f3, k1z3, k1f4, k1z4, k1f5, k1z5, k1f6, k1z6, k1f7, k1z7, k1r0, k1r1, k1r2, k1r3, k1r4, k1r5, k1r6, k1w, k109, k109a, k109b, k109c, k109d, k109e, k109f, k109g, kr110, kr112, kr114, kr116, kr118, kr120, kr122]
  refine ⟨fun q => ⟨fun q1 => ⟨fun q2 => ?_, fun q2 => ?_⟩, fun q1 => ?_⟩, fun q => ?_⟩
  · rw [cIf_f (by omega), cIf_f (by omega), cIf_f (by omega)] at hP
    exact c_bad hC hW hn hP
  · rw [cIf_f (by omega), cIf_f (by omega), cIf_t (by omega)] at hP
    exact c_noMarks bk1 h fun D1 d1 d2 => hP D1 (d1.wide (by omega) (by omega)) (hC.now (d1.wide (by omega) (by omega)) d2)
  · rw [cIf_f (by omega), cIf_t (by omega)] at hP
    exact c_noNotes bk1 h fun D1 d1 d2 => hP D1 (d1.wide (by omega) (by omega)) (hC.now (d1.wide (by omega) (by omega)) d2)
  · rw [cIf_t (by omega)] at hP
    exact c_noSounds bk1 h fun D1 d1 d2 => hP D1 (d1.wide (by omega) (by omega)) (hC.now (d1.wide (by omega) (by omega)) d2)
noncomputable def r_part (s : Mem) (w : Int) : Int × Mem := cIf (w = 0) (s 4 6, s) (cIf (w = 1) (s 4 7, s) (-2, sRf s 3))
theorem v_part {n w : Int} {s : Mem} (hW : WS n s) (hn : n < 1000000) : cOK miX5_part [zr 0, zi w] s (r_part s w) := by
  intro D P hC hP
  unfold r_part at hP
  have hf := hC.2.2.2.2
  refine e_X5_part ?_
  simp only [tX5_part_0, w_ic, w_lc, w_lds, w_ild, w_lld, w_ald, w_ist, w_lst, w_ast, w_iinc, w_iadd, w_isub, w_imul, w_idiv, w_irem, w_iand, w_ior, w_ixor, w_ishl, w_ishr, w_iushr, w_ineg, w_ladd, w_lsub, w_lmul, w_ldiv, w_lrem, w_lcmp, w_i2l, w_l2i, w_dup, w_pop, w_dup2, w_ieq, w_zeq, w_ine, w_zne, w_ilt, w_zlt, w_ige, w_zge, w_igt, w_zgt, w_ile, w_zle, w_cut, w_tsw, zsw, w_iret, w_zret, w_lret, w_vret, w_nret, w_getI, w_getJ, w_getR, w_putI, w_putZ, w_putJ, w_iald, w_zald, w_iast, w_zast, w_alen, w_sI, w_sJ, w_sV, w_vI, w_vJ, w_vV, w_tI, w_mmax, w_mmin, w_mabs, w_lmax, w_acopy, gL, sL, kl_i, kl_l, kl_r, kl_s, kl_m, qI_i, qJ_l, qA_r, qA_s, pI_i, pJ_l, pA_r, pS_s, pM_m, pV_v, c1_i, c1_r, c1_s, c1_m, cS_0, cS_i, cS_l, cS_r, cS_s, cS_m, pN, z_rc_r, zE1, zE2, zE3, true_and, and_true, Nat.zero_add, Nat.reduceAdd, Nat.reduceLeDiff, true_or, or_true, q0, qp4, qp5, qp8, qp9, qf0, qz0, qf1, qz1, qf2, qz2, qf3, qz3, qf6, qz6, qf7, qz7, qf10, qz10, qf11, qz11, qf12, qz12, qf13, qz13, qf14, qz14, k1o, k1m, k1f0, k1z0, k1f1, k1z1, k1f2, k1z2, k1f3, k1z3, k1f4, k1z4, k1f5, k1z5, k1f6, k1z6, k1f7, k1z7, k1r0, k1r1, k1r2, k1r3, k1r4, k1r5, k1r6, k1w, k109, k109a, k109b, k109c, k109d, k109e, k109f, k109g, kr110, kr112, kr114, kr116, kr118, kr120, kr122]
  refine c_within (fun c2 c3 => ⟨fun _ => ⟨fun q => ?_, fun q => ?_⟩, fun w => absurd (by decide) w⟩) (fun q => ⟨fun w => absurd rfl w, fun _ => ?_⟩)
  · rw [cIf_f (by omega), cIf_t (by omega)] at hP
    rw [hf.2]
    exact hP D Fr.rfl hC
  · rw [cIf_t (by omega)] at hP
    rw [hf.1]
    exact hP D Fr.rfl hC
  · rw [cIf_f (by omega), cIf_f (by omega)] at hP
    exact c_bad hC hW hn hP
theorem CS.im1 {D D' D'' s : Mem} (h : CS D s) (hf : Fr 55 77 D D') (hB : BK 9999 D' 55 (s 0)) (e : D'' = zU D' 0 4 1) : CS D'' (sU (sU s 1 (s 0)) 4 (zA (s 4) 1 1)) := by
  subst e
  obtain ⟨⟨h1, ⟨x, h2⟩, h3, h4⟩, ⟨h5, h6⟩, ⟨h7, h8⟩, ⟨h9, h10, h11⟩, h12, h13⟩ := h
  have e : ∀ o, o ≠ 0 → (o < 55 ∨ 77 ≤ o) → zU D' 0 4 1 o = D o := fun o q q2 => by rw [zU_ne q]; exact hf o q2
  have e0 : ∀ k : Int, k ≠ 4 → zU D' 0 4 1 0 k = D 0 k := fun k q => by rw [zU_k q, hf 0 (by omega)]
  have n : ∀ j, j ≠ 1 → zA (s 4) 1 1 j = s 4 j := fun j q => zA_n q
  refine ⟨⟨by rw [sU_n (by decide), sU_n (by decide)]; exact h1.out fun o _ _ => e o (by omega) (by omega), ⟨x, h2.out fun o _ _ => e o (by omega) (by omega)⟩, by rw [sU_n (by decide), sU_s]; exact hB.out fun o _ _ => zU_ne (by omega), by rw [sU_n (by decide), sU_n (by decide)]; exact h4.out fun o _ _ => e o (by omega) (by omega)⟩, ?_⟩
  rw [sU_s, sU_n (by decide), sU_n (by decide), zA_s, n 0 (by decide), n 2 (by decide), n 3 (by decide), n 4 (by decide), n 5 (by decide), n 6 (by decide), n 7 (by decide), e 109 (by decide) (by decide), e 111 (by decide) (by decide), e 113 (by decide) (by decide), e0 5 (by decide), e0 8 (by decide), e0 9 (by decide)]
  exact ⟨⟨h5, h6⟩, ⟨zU_s, h8⟩, ⟨h9, h10, h11⟩, h12, h13⟩
theorem CS.im2 {D D' D'' s : Mem} (h : CS D s) (hf : Fr 82 104 D D') (hB : BK 9999 D' 82 (s 0)) (e : D'' = zU D' 0 5 1) : CS D'' (sU (sU s 2 (s 0)) 4 (zA (s 4) 2 1)) := by
  subst e
  obtain ⟨⟨h1, ⟨x, h2⟩, h3, h4⟩, ⟨h5, h6⟩, ⟨h7, h8⟩, ⟨h9, h10, h11⟩, h12, h13⟩ := h
  have e : ∀ o, o ≠ 0 → (o < 82 ∨ 104 ≤ o) → zU D' 0 5 1 o = D o := fun o q q2 => by rw [zU_ne q]; exact hf o q2
  have e0 : ∀ k : Int, k ≠ 5 → zU D' 0 5 1 0 k = D 0 k := fun k q => by rw [zU_k q, hf 0 (by omega)]
  have n : ∀ j, j ≠ 2 → zA (s 4) 2 1 j = s 4 j := fun j q => zA_n q
  refine ⟨⟨by rw [sU_n (by decide), sU_n (by decide)]; exact h1.out fun o _ _ => e o (by omega) (by omega), ⟨x, h2.out fun o _ _ => e o (by omega) (by omega)⟩, by rw [sU_n (by decide), sU_n (by decide)]; exact h3.out fun o _ _ => e o (by omega) (by omega), by rw [sU_n (by decide), sU_s]; exact hB.out fun o _ _ => zU_ne (by omega)⟩, ?_⟩
  rw [sU_s, sU_n (by decide), sU_n (by decide), zA_s, n 0 (by decide), n 1 (by decide), n 3 (by decide), n 4 (by decide), n 5 (by decide), n 6 (by decide), n 7 (by decide), e 109 (by decide) (by decide), e 111 (by decide) (by decide), e 113 (by decide) (by decide), e0 4 (by decide), e0 8 (by decide), e0 9 (by decide)]
  exact ⟨⟨h5, h6⟩, ⟨h7, zU_s⟩, ⟨h9, h10, h11⟩, h12, h13⟩
noncomputable def r_image (s : Mem) (i : Int) : Int × Mem := cIf (i = 0) (1, sU (sU s 1 (s 0)) 4 (zA (s 4) 1 1)) (cIf (i = 1) (1, sU (sU s 2 (s 0)) 4 (zA (s 4) 2 1)) (-2, sRf s 3))
theorem v_image {n w : Int} {s : Mem} (hW : WS n s) (hn : n < 1000000) : cOK miX5_image [zr 0, zi w] s (r_image s w) := by
  intro D P hC hP
  unfold r_image at hP
  have h := hC.1
  refine e_X5_image ?_
  simp only [tX5_image_0, w_ic, w_lc, w_lds, w_ild, w_lld, w_ald, w_ist, w_lst, w_ast, w_iinc, w_iadd, w_isub, w_imul, w_idiv, w_irem, w_iand, w_ior, w_ixor, w_ishl, w_ishr, w_iushr, w_ineg, w_ladd, w_lsub, w_lmul, w_ldiv, w_lrem, w_lcmp, w_i2l, w_l2i, w_dup, w_pop, w_dup2, w_ieq, w_zeq, w_ine, w_zne, w_ilt, w_zlt, w_ige, w_zge, w_igt, w_zgt, w_ile, w_zle, w_cut, w_tsw, zsw, w_iret, w_zret, w_lret, w_vret, w_nret, w_getI, w_getJ, w_getR, w_putI, w_putZ, w_putJ, w_iald, w_zald, w_iast, w_zast, w_alen, w_sI, w_sJ, w_sV, w_vI, w_vJ, w_vV, w_tI, w_mmax, w_mmin, w_mabs, w_lmax, w_acopy, gL, sL, kl_i, kl_l, kl_r, kl_s, kl_m, qI_i, qJ_l, qA_r, qA_s, pI_i, pJ_l, pA_r, pS_s, pM_m, pV_v, c1_i, c1_r, c1_s, c1_m, cS_0, cS_i, cS_l, cS_r, cS_s, cS_m, pN, z_rc_r, zE1, zE2, zE3, true_and, and_true, Nat.zero_add, Nat.reduceAdd, Nat.reduceLeDiff, true_or, or_true, q0, qp4, qp5, qp8, qp9, qf0, qz0, qf1, qz1, qf2, qz2, qf3, qz3, qf6, qz6, qf7, qz7, qf10, qz10, qf11, qz11, qf12, qz12, qf13, qz13, qf14, qz14, k1o, k1m, k1f0, k1z0, k1f1, k1z1, k1f2, k1z2, k1f3, k1z3, k1f4, k1z4, k1f5, k1z5, k1f6, k1z6, k1f7, k1z7, k1r0, k1r1, k1r2, k1r3, k1r4, k1r5, k1r6, k1w, k109, k109a, k109b, k109c, k109d, k109e, k109f, k109g, kr110, kr112, kr114, kr116, kr118, kr120, kr122]
  refine c_within (fun c2 c3 => ⟨fun _ => ⟨fun q => ?_, fun q => ?_⟩, fun w => absurd (by decide) w⟩) (fun q => ⟨fun w => absurd rfl w, fun _ => ?_⟩)
  · rw [cIf_f (by omega), cIf_t (by omega)] at hP
    exact ⟨bk4.o, c_take bk4 bk1 (by decide) h.2.2.2 h.1 fun D1 d1 d2 => hP _ ((d1.wide (by omega) (by omega)).trans (Fr.up (by omega) (by omega))) (hC.im2 d1 d2 rfl)⟩
  · rw [cIf_t (by omega)] at hP
    exact ⟨bk3.o, c_take bk3 bk1 (by decide) h.2.2.1 h.1 fun D1 d1 d2 => hP _ ((d1.wide (by omega) (by omega)).trans (Fr.up (by omega) (by omega))) (hC.im1 d1 d2 rfl)⟩
  · rw [cIf_f (by omega), cIf_f (by omega)] at hP
    exact c_bad hC hW hn hP
noncomputable def r_from (s : Mem) (i : Int) : Int × Mem := cIf (i = 0) (cIf (s 4 1 = 0) (-3, sRf s 4) (1, sU s 0 (s 1))) (cIf (i = 1) (cIf (s 4 2 = 0) (-3, sRf s 4) (1, sU s 0 (s 2))) (-2, sRf s 3))
theorem v_from {n w : Int} {s : Mem} (hW : WS n s) (hn : n < 1000000) : cOK miX5_from [zr 0, zi w] s (r_from s w) := by
  intro D P hC hP
  unfold r_from at hP
  have h := hC.1
  have hk := hC.2.2.1
  refine e_X5_from ?_
  simp only [tX5_from_0, w_ic, w_lc, w_lds, w_ild, w_lld, w_ald, w_ist, w_lst, w_ast, w_iinc, w_iadd, w_isub, w_imul, w_idiv, w_irem, w_iand, w_ior, w_ixor, w_ishl, w_ishr, w_iushr, w_ineg, w_ladd, w_lsub, w_lmul, w_ldiv, w_lrem, w_lcmp, w_i2l, w_l2i, w_dup, w_pop, w_dup2, w_ieq, w_zeq, w_ine, w_zne, w_ilt, w_zlt, w_ige, w_zge, w_igt, w_zgt, w_ile, w_zle, w_cut, w_tsw, zsw, w_iret, w_zret, w_lret, w_vret, w_nret, w_getI, w_getJ, w_getR, w_putI, w_putZ, w_putJ, w_iald, w_zald, w_iast, w_zast, w_alen, w_sI, w_sJ, w_sV, w_vI, w_vJ, w_vV, w_tI, w_mmax, w_mmin, w_mabs, w_lmax, w_acopy, gL, sL, kl_i, kl_l, kl_r, kl_s, kl_m, qI_i, qJ_l, qA_r, qA_s, pI_i, pJ_l, pA_r, pS_s, pM_m, pV_v, c1_i, c1_r, c1_s, c1_m, cS_0, cS_i, cS_l, cS_r, cS_s, cS_m, pN, z_rc_r, zE1, zE2, zE3, true_and, and_true, Nat.zero_add, Nat.reduceAdd, Nat.reduceLeDiff, true_or, or_true, q0, qp4, qp5, qp8, qp9, qf0, qz0, qf1, qz1, qf2, qz2, qf3, qz3, qf6, qz6, qf7, qz7, qf10, qz10, qf11, qz11, qf12, qz12, qf13, qz13, qf14, qz14, k1o, k1m, k1f0, k1z0, k1f1, k1z1, k1f2, k1z2, k1f3, k1z3, k1f4, k1z4, k1f5, k1z5, k1f6, k1z6, k1f7, k1z7, k1r0, k1r1, k1r2, k1r3, k1r4, k1r5, k1r6, k1w, k109, k109a, k109b, k109c, k109d, k109e, k109f, k109g, kr110, kr112, kr114, kr116, kr118, kr120, kr122]
  refine c_within (fun c2 c3 => ⟨fun _ => ⟨fun q => ?_, fun q => ?_⟩, fun w => absurd (by decide) w⟩) (fun q => ⟨fun w => absurd rfl w, fun _ => ?_⟩)
  · rw [cIf_f (by omega), cIf_t (by omega)] at hP
    rw [hk.2]
    refine ⟨fun q1 => ⟨fun q2 => ?_, fun q2 => absurd q q2⟩, fun q1 => ?_⟩
    · rw [cIf_f (by omega)] at hP
      exact c_take bk1 bk4 (by decide) h.1 h.2.2.2 fun D1 d1 d2 => hP _ (d1.wide (by omega) (by omega)) (hC.now (d1.wide (by omega) (by omega)) d2)
    · rw [cIf_t (by omega)] at hP
      exact c_no hC hW hn hP
  · rw [cIf_t (by omega)] at hP
    rw [hk.1]
    refine ⟨fun q1 => ⟨fun q2 => absurd q2 q, fun q2 => ?_⟩, fun q1 => ?_⟩
    · rw [cIf_f (by omega)] at hP
      exact c_take bk1 bk3 (by decide) h.1 h.2.2.1 fun D1 d1 d2 => hP _ (d1.wide (by omega) (by omega)) (hC.now (d1.wide (by omega) (by omega)) d2)
    · rw [cIf_t (by omega)] at hP
      exact c_no hC hW hn hP
  · rw [cIf_f (by omega), cIf_f (by omega)] at hP
    exact c_bad hC hW hn hP
noncomputable def r_status (s : Mem) (w : Int) : Int × Mem := cIf (0 ≤ w ∧ w ≤ 2) (s 4 (3 + w), s) (-1, sRf s 3)
theorem v_status {n w : Int} {s : Mem} (hW : WS n s) (hn : n < 1000000) : cOK miX5_status [zr 0, zi w] s (r_status s w) := by
  intro D P hC hP
  unfold r_status at hP
  have hf := hC.2.2.2.1
  have i3 : ((3 : Nat) : Int) = 3 := rfl
  refine e_X5_status ?_
  simp only [tX5_status_0, w_ic, w_lc, w_lds, w_ild, w_lld, w_ald, w_ist, w_lst, w_ast, w_iinc, w_iadd, w_isub, w_imul, w_idiv, w_irem, w_iand, w_ior, w_ixor, w_ishl, w_ishr, w_iushr, w_ineg, w_ladd, w_lsub, w_lmul, w_ldiv, w_lrem, w_lcmp, w_i2l, w_l2i, w_dup, w_pop, w_dup2, w_ieq, w_zeq, w_ine, w_zne, w_ilt, w_zlt, w_ige, w_zge, w_igt, w_zgt, w_ile, w_zle, w_cut, w_tsw, zsw, w_iret, w_zret, w_lret, w_vret, w_nret, w_getI, w_getJ, w_getR, w_putI, w_putZ, w_putJ, w_iald, w_zald, w_iast, w_zast, w_alen, w_sI, w_sJ, w_sV, w_vI, w_vJ, w_vV, w_tI, w_mmax, w_mmin, w_mabs, w_lmax, w_acopy, gL, sL, kl_i, kl_l, kl_r, kl_s, kl_m, qI_i, qJ_l, qA_r, qA_s, pI_i, pJ_l, pA_r, pS_s, pM_m, pV_v, c1_i, c1_r, c1_s, c1_m, cS_0, cS_i, cS_l, cS_r, cS_s, cS_m, pN, z_rc_r, zE1, zE2, zE3, true_and, and_true, Nat.zero_add, Nat.reduceAdd, Nat.reduceLeDiff, true_or, or_true, q0, qp4, qp5, qp8, qp9, qf0, qz0, qf1, qz1, qf2, qz2, qf3, qz3, qf6, qz6, qf7, qz7, qf10, qz10, qf11, qz11, qf12, qz12, qf13, qz13, qf14, qz14, k1o, k1m, k1f0, k1z0, k1f1, k1z1, k1f2, k1z2, k1f3, k1z3, k1f4, k1z4, k1f5, k1z5, k1f6, k1z6, k1f7, k1z7, k1r0, k1r1, k1r2, k1r3, k1r4, k1r5, k1r6, k1w, k109, k109a, k109b, k109c, k109d, k109e, k109f, k109g, kr110, kr112, kr114, kr116, kr118, kr120, kr122]
  refine c_within (fun c2 c3 => ⟨fun _ => ?_, fun w => absurd (by decide) w⟩) (fun q => ⟨fun w => absurd rfl w, fun _ => ?_⟩)
  · rw [cIf_t ⟨c2, c3⟩] at hP
    refine c_Row_get p112 (by omega) (by omega) ?_
    have e : D 113 w = s 4 (3 + w) := by
      rcases (by omega : w = 0 ∨ w = 1 ∨ w = 2) with q | q | q <;> subst q
      · exact hf.1
      · exact hf.2.1
      · exact hf.2.2
    rw [e]
    exact hP D Fr.rfl hC
  · rw [cIf_f (by omega)] at hP
    exact c_badAs hC hW hn hP
noncomputable def sHow (s : Mem) (w : Int) : Int := if w = 0 then s 0 1 else if w = 1 then s 0 0 else if w = 2 then s 0 2 else if w = 3 then s 0 3 else if w = 4 then sAr (s 0) else if w = 5 then s 0 54 else if w = 6 then s 0 70 else if w = 7 then s 0 95 else if w = 8 then s 0 120 else s 4 0
theorem c_howMany {D s : Mem} {w : Int} {P : Int → Mem → Prop} (hC : CS D s) (w0 : 0 ≤ w) (w1 : w ≤ 9) (hP : P (sHow s w) D) : zC miX5_howMany [zr 0, zi w] D P := by
  have h := hC.1.1
  unfold sHow at hP
  refine e_X5_howMany ?_
  simp only [tX5_howMany_0, w_ic, w_lc, w_lds, w_ild, w_lld, w_ald, w_ist, w_lst, w_ast, w_iinc, w_iadd, w_isub, w_imul, w_idiv, w_irem, w_iand, w_ior, w_ixor, w_ishl, w_ishr, w_iushr, w_ineg, w_ladd, w_lsub, w_lmul, w_ldiv, w_lrem, w_lcmp, w_i2l, w_l2i, w_dup, w_pop, w_dup2, w_ieq, w_zeq, w_ine, w_zne, w_ilt, w_zlt, w_ige, w_zge, w_igt, w_zgt, w_ile, w_zle, w_cut, w_tsw, zsw, w_iret, w_zret, w_lret, w_vret, w_nret, w_getI, w_getJ, w_getR, w_putI, w_putZ, w_putJ, w_iald, w_zald, w_iast, w_zast, w_alen, w_sI, w_sJ, w_sV, w_vI, w_vJ, w_vV, w_tI, w_mmax, w_mmin, w_mabs, w_lmax, w_acopy, gL, sL, kl_i, kl_l, kl_r, kl_s, kl_m, qI_i, qJ_l, qA_r, qA_s, pI_i, pJ_l, pA_r, pS_s, pM_m, pV_v, c1_i, c1_r, c1_s, c1_m, cS_0, cS_i, cS_l, cS_r, cS_s, cS_m, pN, z_rc_r, zE1, zE2, zE3, true_and, and_true, Nat.zero_add, Nat.reduceAdd, Nat.reduceLeDiff, true_or, or_true, q0, qp4, qp5, qp8, qp9, qf0, qz0, qf1, qz1, qf2, qz2, qf3, qz3, qf6, qz6, qf7, qz7, qf10, qz10, qf11, qz11, qf12, qz12, qf13, qz13, qf14, qz14, k1o, k1m, k1f0, k1z0, k1f1, k1z1, k1f2, k1z2, k1f3, k1z3, k1f4, k1z4, k1f5, k1z5, k1f6, k1z6, k1f7, k1z7, k1r0, k1r1, k1r2, k1r3, k1r4, k1r5, k1r6, k1w, k109, k109a, k109b, k109c, k109d, k109e, k109f, k109g, kr110, kr112, kr114, kr116, kr118, kr120, kr122]
  have hl : ([52, 63, 74, 85, 93, 101, 112, 123, 134] : List Nat).length = 9 := rfl
  refine ⟨⟨fun q => ?_, fun q => ?_, fun q => ?_, fun q => ?_, fun q => ?_, fun q => ?_, fun q => ?_, fun q => ?_, fun q => ?_⟩, fun q => ?_⟩
  · refine sX5_howMany_52 _ _ _ _ _ ?_
    simp only [tX5_howMany_52, w_ic, w_lc, w_lds, w_ild, w_lld, w_ald, w_ist, w_lst, w_ast, w_iinc, w_iadd, w_isub, w_imul, w_idiv, w_irem, w_iand, w_ior, w_ixor, w_ishl, w_ishr, w_iushr, w_ineg, w_ladd, w_lsub, w_lmul, w_ldiv, w_lrem, w_lcmp, w_i2l, w_l2i, w_dup, w_pop, w_dup2, w_ieq, w_zeq, w_ine, w_zne, w_ilt, w_zlt, w_ige, w_zge, w_igt, w_zgt, w_ile, w_zle, w_cut, w_tsw, zsw, w_iret, w_zret, w_lret, w_vret, w_nret, w_getI, w_getJ, w_getR, w_putI, w_putZ, w_putJ, w_iald, w_zald, w_iast, w_zast, w_alen, w_sI, w_sJ, w_sV, w_vI, w_vJ, w_vV, w_tI, w_mmax, w_mmin, w_mabs, w_lmax, w_acopy, gL, sL, kl_i, kl_l, kl_r, kl_s, kl_m, qI_i, qJ_l, qA_r, qA_s, pI_i, pJ_l, pA_r, pS_s, pM_m, pV_v, c1_i, c1_r, c1_s, c1_m, cS_0, cS_i, cS_l, cS_r, cS_s, cS_m, pN, z_rc_r, zE1, zE2, zE3, true_and, and_true, Nat.zero_add, Nat.reduceAdd, Nat.reduceLeDiff, true_or, or_true, q0, qp4, qp5, qp8, qp9, qf0, qz0, qf1, qz1, qf2, qz2, qf3, qz3, qf6, qz6, qf7, qz7, qf10, qz10, qf11, qz11, qf12, qz12, qf13, qz13, qf14, qz14, k1o, k1m, k1f0, k1z0, k1f1, k1z1, k1f2, k1z2, k1f3, k1z3, k1f4, k1z4, k1f5, k1z5, k1f6, k1z6, k1f7, k1z7, k1r0, k1r1, k1r2, k1r3, k1r4, k1r5, k1r6, k1w, k109, k109a, k109b, k109c, k109d, k109e, k109f, k109g, kr110, kr112, kr114, kr116, kr118, kr120, kr122]
    rw [if_pos (by omega)] at hP
    exact c_gsize bk1 h hP
  · refine sX5_howMany_63 _ _ _ _ _ ?_
    simp only [tX5_howMany_63, w_ic, w_lc, w_lds, w_ild, w_lld, w_ald, w_ist, w_lst, w_ast, w_iinc, w_iadd, w_isub, w_imul, w_idiv, w_irem, w_iand, w_ior, w_ixor, w_ishl, w_ishr, w_iushr, w_ineg, w_ladd, w_lsub, w_lmul, w_ldiv, w_lrem, w_lcmp, w_i2l, w_l2i, w_dup, w_pop, w_dup2, w_ieq, w_zeq, w_ine, w_zne, w_ilt, w_zlt, w_ige, w_zge, w_igt, w_zgt, w_ile, w_zle, w_cut, w_tsw, zsw, w_iret, w_zret, w_lret, w_vret, w_nret, w_getI, w_getJ, w_getR, w_putI, w_putZ, w_putJ, w_iald, w_zald, w_iast, w_zast, w_alen, w_sI, w_sJ, w_sV, w_vI, w_vJ, w_vV, w_tI, w_mmax, w_mmin, w_mabs, w_lmax, w_acopy, gL, sL, kl_i, kl_l, kl_r, kl_s, kl_m, qI_i, qJ_l, qA_r, qA_s, pI_i, pJ_l, pA_r, pS_s, pM_m, pV_v, c1_i, c1_r, c1_s, c1_m, cS_0, cS_i, cS_l, cS_r, cS_s, cS_m, pN, z_rc_r, zE1, zE2, zE3, true_and, and_true, Nat.zero_add, Nat.reduceAdd, Nat.reduceLeDiff, true_or, or_true, q0, qp4, qp5, qp8, qp9, qf0, qz0, qf1, qz1, qf2, qz2, qf3, qz3, qf6, qz6, qf7, qz7, qf10, qz10, qf11, qz11, qf12, qz12, qf13, qz13, qf14, qz14, k1o, k1m, k1f0, k1z0, k1f1, k1z1, k1f2, k1z2, k1f3, k1z3, k1f4, k1z4, k1f5, k1z5, k1f6, k1z6, k1f7, k1z7, k1r0, k1r1, k1r2, k1r3, k1r4, k1r5, k1r6, k1w, k109, k109a, k109b, k109c, k109d, k109e, k109f, k109g, kr110, kr112, kr114, kr116, kr118, kr120, kr122]
    rw [if_neg (by omega), if_pos (by omega)] at hP
    exact c_lsize bk1 h hP
  · refine sX5_howMany_74 _ _ _ _ _ ?_
    simp only [tX5_howMany_74, w_ic, w_lc, w_lds, w_ild, w_lld, w_ald, w_ist, w_lst, w_ast, w_iinc, w_iadd, w_isub, w_imul, w_idiv, w_irem, w_iand, w_ior, w_ixor, w_ishl, w_ishr, w_iushr, w_ineg, w_ladd, w_lsub, w_lmul, w_ldiv, w_lrem, w_lcmp, w_i2l, w_l2i, w_dup, w_pop, w_dup2, w_ieq, w_zeq, w_ine, w_zne, w_ilt, w_zlt, w_ige, w_zge, w_igt, w_zgt, w_ile, w_zle, w_cut, w_tsw, zsw, w_iret, w_zret, w_lret, w_vret, w_nret, w_getI, w_getJ, w_getR, w_putI, w_putZ, w_putJ, w_iald, w_zald, w_iast, w_zast, w_alen, w_sI, w_sJ, w_sV, w_vI, w_vJ, w_vV, w_tI, w_mmax, w_mmin, w_mabs, w_lmax, w_acopy, gL, sL, kl_i, kl_l, kl_r, kl_s, kl_m, qI_i, qJ_l, qA_r, qA_s, pI_i, pJ_l, pA_r, pS_s, pM_m, pV_v, c1_i, c1_r, c1_s, c1_m, cS_0, cS_i, cS_l, cS_r, cS_s, cS_m, pN, z_rc_r, zE1, zE2, zE3, true_and, and_true, Nat.zero_add, Nat.reduceAdd, Nat.reduceLeDiff, true_or, or_true, q0, qp4, qp5, qp8, qp9, qf0, qz0, qf1, qz1, qf2, qz2, qf3, qz3, qf6, qz6, qf7, qz7, qf10, qz10, qf11, qz11, qf12, qz12, qf13, qz13, qf14, qz14, k1o, k1m, k1f0, k1z0, k1f1, k1z1, k1f2, k1z2, k1f3, k1z3, k1f4, k1z4, k1f5, k1z5, k1f6, k1z6, k1f7, k1z7, k1r0, k1r1, k1r2, k1r3, k1r4, k1r5, k1r6, k1w, k109, k109a, k109b, k109c, k109d, k109e, k109f, k109g, kr110, kr112, kr114, kr116, kr118, kr120, kr122]
    rw [if_neg (by omega), if_neg (by omega), if_pos (by omega)] at hP
    exact c_wsize bk1 h hP
  · refine sX5_howMany_85 _ _ _ _ _ ?_
    simp only [tX5_howMany_85, w_ic, w_lc, w_lds, w_ild, w_lld, w_ald, w_ist, w_lst, w_ast, w_iinc, w_iadd, w_isub, w_imul, w_idiv, w_irem, w_iand, w_ior, w_ixor, w_ishl, w_ishr, w_iushr, w_ineg, w_ladd, w_lsub, w_lmul, w_ldiv, w_lrem, w_lcmp, w_i2l, w_l2i, w_dup, w_pop, w_dup2, w_ieq, w_zeq, w_ine, w_zne, w_ilt, w_zlt, w_ige, w_zge, w_igt, w_zgt, w_ile, w_zle, w_cut, w_tsw, zsw, w_iret, w_zret, w_lret, w_vret, w_nret, w_getI, w_getJ, w_getR, w_putI, w_putZ, w_putJ, w_iald, w_zald, w_iast, w_zast, w_alen, w_sI, w_sJ, w_sV, w_vI, w_vJ, w_vV, w_tI, w_mmax, w_mmin, w_mabs, w_lmax, w_acopy, gL, sL, kl_i, kl_l, kl_r, kl_s, kl_m, qI_i, qJ_l, qA_r, qA_s, pI_i, pJ_l, pA_r, pS_s, pM_m, pV_v, c1_i, c1_r, c1_s, c1_m, cS_0, cS_i, cS_l, cS_r, cS_s, cS_m, pN, z_rc_r, zE1, zE2, zE3, true_and, and_true, Nat.zero_add, Nat.reduceAdd, Nat.reduceLeDiff, true_or, or_true, q0, qp4, qp5, qp8, qp9, qf0, qz0, qf1, qz1, qf2, qz2, qf3, qz3, qf6, qz6, qf7, qz7, qf10, qz10, qf11, qz11, qf12, qz12, qf13, qz13, qf14, qz14, k1o, k1m, k1f0, k1z0, k1f1, k1z1, k1f2, k1z2, k1f3, k1z3, k1f4, k1z4, k1f5, k1z5, k1f6, k1z6, k1f7, k1z7, k1r0, k1r1, k1r2, k1r3, k1r4, k1r5, k1r6, k1w, k109, k109a, k109b, k109c, k109d, k109e, k109f, k109g, kr110, kr112, kr114, kr116, kr118, kr120, kr122]
    rw [if_neg (by omega), if_neg (by omega), if_neg (by omega), if_pos (by omega)] at hP
    rw [h.2.1.m]
    exact hP
  · refine sX5_howMany_93 _ _ _ _ _ ?_
    simp only [tX5_howMany_93, w_ic, w_lc, w_lds, w_ild, w_lld, w_ald, w_ist, w_lst, w_ast, w_iinc, w_iadd, w_isub, w_imul, w_idiv, w_irem, w_iand, w_ior, w_ixor, w_ishl, w_ishr, w_iushr, w_ineg, w_ladd, w_lsub, w_lmul, w_ldiv, w_lrem, w_lcmp, w_i2l, w_l2i, w_dup, w_pop, w_dup2, w_ieq, w_zeq, w_ine, w_zne, w_ilt, w_zlt, w_ige, w_zge, w_igt, w_zgt, w_ile, w_zle, w_cut, w_tsw, zsw, w_iret, w_zret, w_lret, w_vret, w_nret, w_getI, w_getJ, w_getR, w_putI, w_putZ, w_putJ, w_iald, w_zald, w_iast, w_zast, w_alen, w_sI, w_sJ, w_sV, w_vI, w_vJ, w_vV, w_tI, w_mmax, w_mmin, w_mabs, w_lmax, w_acopy, gL, sL, kl_i, kl_l, kl_r, kl_s, kl_m, qI_i, qJ_l, qA_r, qA_s, pI_i, pJ_l, pA_r, pS_s, pM_m, pV_v, c1_i, c1_r, c1_s, c1_m, cS_0, cS_i, cS_l, cS_r, cS_s, cS_m, pN, z_rc_r, zE1, zE2, zE3, true_and, and_true, Nat.zero_add, Nat.reduceAdd, Nat.reduceLeDiff, true_or, or_true, q0, qp4, qp5, qp8, qp9, qf0, qz0, qf1, qz1, qf2, qz2, qf3, qz3, qf6, qz6, qf7, qz7, qf10, qz10, qf11, qz11, qf12, qz12, qf13, qz13, qf14, qz14, k1o, k1m, k1f0, k1z0, k1f1, k1z1, k1f2, k1z2, k1f3, k1z3, k1f4, k1z4, k1f5, k1z5, k1f6, k1z6, k1f7, k1z7, k1r0, k1r1, k1r2, k1r3, k1r4, k1r5, k1r6, k1w, k109, k109a, k109b, k109c, k109d, k109e, k109f, k109g, kr110, kr112, kr114, kr116, kr118, kr120, kr122]
    rw [if_neg (by omega), if_neg (by omega), if_neg (by omega), if_neg (by omega), if_pos (by omega)] at hP
    exact c_arrived bk1 h hP
  · refine sX5_howMany_101 _ _ _ _ _ ?_
    simp only [tX5_howMany_101, w_ic, w_lc, w_lds, w_ild, w_lld, w_ald, w_ist, w_lst, w_ast, w_iinc, w_iadd, w_isub, w_imul, w_idiv, w_irem, w_iand, w_ior, w_ixor, w_ishl, w_ishr, w_iushr, w_ineg, w_ladd, w_lsub, w_lmul, w_ldiv, w_lrem, w_lcmp, w_i2l, w_l2i, w_dup, w_pop, w_dup2, w_ieq, w_zeq, w_ine, w_zne, w_ilt, w_zlt, w_ige, w_zge, w_igt, w_zgt, w_ile, w_zle, w_cut, w_tsw, zsw, w_iret, w_zret, w_lret, w_vret, w_nret, w_getI, w_getJ, w_getR, w_putI, w_putZ, w_putJ, w_iald, w_zald, w_iast, w_zast, w_alen, w_sI, w_sJ, w_sV, w_vI, w_vJ, w_vV, w_tI, w_mmax, w_mmin, w_mabs, w_lmax, w_acopy, gL, sL, kl_i, kl_l, kl_r, kl_s, kl_m, qI_i, qJ_l, qA_r, qA_s, pI_i, pJ_l, pA_r, pS_s, pM_m, pV_v, c1_i, c1_r, c1_s, c1_m, cS_0, cS_i, cS_l, cS_r, cS_s, cS_m, pN, z_rc_r, zE1, zE2, zE3, true_and, and_true, Nat.zero_add, Nat.reduceAdd, Nat.reduceLeDiff, true_or, or_true, q0, qp4, qp5, qp8, qp9, qf0, qz0, qf1, qz1, qf2, qz2, qf3, qz3, qf6, qz6, qf7, qz7, qf10, qz10, qf11, qz11, qf12, qz12, qf13, qz13, qf14, qz14, k1o, k1m, k1f0, k1z0, k1f1, k1z1, k1f2, k1z2, k1f3, k1z3, k1f4, k1z4, k1f5, k1z5, k1f6, k1z6, k1f7, k1z7, k1r0, k1r1, k1r2, k1r3, k1r4, k1r5, k1r6, k1w, k109, k109a, k109b, k109c, k109d, k109e, k109f, k109g, kr110, kr112, kr114, kr116, kr118, kr120, kr122]
    rw [if_neg (by omega), if_neg (by omega), if_neg (by omega), if_neg (by omega), if_neg (by omega), if_pos (by omega)] at hP
    exact c_Rows_size bk1.r3 (by rw [h.2.1.s.1]; exact hP)
  · refine sX5_howMany_112 _ _ _ _ _ ?_
    simp only [tX5_howMany_112, w_ic, w_lc, w_lds, w_ild, w_lld, w_ald, w_ist, w_lst, w_ast, w_iinc, w_iadd, w_isub, w_imul, w_idiv, w_irem, w_iand, w_ior, w_ixor, w_ishl, w_ishr, w_iushr, w_ineg, w_ladd, w_lsub, w_lmul, w_ldiv, w_lrem, w_lcmp, w_i2l, w_l2i, w_dup, w_pop, w_dup2, w_ieq, w_zeq, w_ine, w_zne, w_ilt, w_zlt, w_ige, w_zge, w_igt, w_zgt, w_ile, w_zle, w_cut, w_tsw, zsw, w_iret, w_zret, w_lret, w_vret, w_nret, w_getI, w_getJ, w_getR, w_putI, w_putZ, w_putJ, w_iald, w_zald, w_iast, w_zast, w_alen, w_sI, w_sJ, w_sV, w_vI, w_vJ, w_vV, w_tI, w_mmax, w_mmin, w_mabs, w_lmax, w_acopy, gL, sL, kl_i, kl_l, kl_r, kl_s, kl_m, qI_i, qJ_l, qA_r, qA_s, pI_i, pJ_l, pA_r, pS_s, pM_m, pV_v, c1_i, c1_r, c1_s, c1_m, cS_0, cS_i, cS_l, cS_r, cS_s, cS_m, pN, z_rc_r, zE1, zE2, zE3, true_and, and_true, Nat.zero_add, Nat.reduceAdd, Nat.reduceLeDiff, true_or, or_true, q0, qp4, qp5, qp8, qp9, qf0, qz0, qf1, qz1, qf2, qz2, qf3, qz3, qf6, qz6, qf7, qz7, qf10, qz10, qf11, qz11, qf12, qz12, qf13, qz13, qf14, qz14, k1o, k1m, k1f0, k1z0, k1f1, k1z1, k1f2, k1z2, k1f3, k1z3, k1f4, k1z4, k1f5, k1z5, k1f6, k1z6, k1f7, k1z7, k1r0, k1r1, k1r2, k1r3, k1r4, k1r5, k1r6, k1w, k109, k109a, k109b, k109c, k109d, k109e, k109f, k109g, kr110, kr112, kr114, kr116, kr118, kr120, kr122]
    rw [if_neg (by omega), if_neg (by omega), if_neg (by omega), if_neg (by omega), if_neg (by omega), if_neg (by omega), if_pos (by omega)] at hP
    exact c_Rows_size bk1.r4 (by rw [h.2.1.n.1]; exact hP)
  · refine sX5_howMany_123 _ _ _ _ _ ?_
    simp only [tX5_howMany_123, w_ic, w_lc, w_lds, w_ild, w_lld, w_ald, w_ist, w_lst, w_ast, w_iinc, w_iadd, w_isub, w_imul, w_idiv, w_irem, w_iand, w_ior, w_ixor, w_ishl, w_ishr, w_iushr, w_ineg, w_ladd, w_lsub, w_lmul, w_ldiv, w_lrem, w_lcmp, w_i2l, w_l2i, w_dup, w_pop, w_dup2, w_ieq, w_zeq, w_ine, w_zne, w_ilt, w_zlt, w_ige, w_zge, w_igt, w_zgt, w_ile, w_zle, w_cut, w_tsw, zsw, w_iret, w_zret, w_lret, w_vret, w_nret, w_getI, w_getJ, w_getR, w_putI, w_putZ, w_putJ, w_iald, w_zald, w_iast, w_zast, w_alen, w_sI, w_sJ, w_sV, w_vI, w_vJ, w_vV, w_tI, w_mmax, w_mmin, w_mabs, w_lmax, w_acopy, gL, sL, kl_i, kl_l, kl_r, kl_s, kl_m, qI_i, qJ_l, qA_r, qA_s, pI_i, pJ_l, pA_r, pS_s, pM_m, pV_v, c1_i, c1_r, c1_s, c1_m, cS_0, cS_i, cS_l, cS_r, cS_s, cS_m, pN, z_rc_r, zE1, zE2, zE3, true_and, and_true, Nat.zero_add, Nat.reduceAdd, Nat.reduceLeDiff, true_or, or_true, q0, qp4, qp5, qp8, qp9, qf0, qz0, qf1, qz1, qf2, qz2, qf3, qz3, qf6, qz6, qf7, qz7, qf10, qz10, qf11, qz11, qf12, qz12, qf13, qz13, qf14, qz14, k1o, k1m, k1f0, k1z0, k1f1, k1z1, k1f2, k1z2, k1f3, k1z3, k1f4, k1z4, k1f5, k1z5, k1f6, k1z6, k1f7, k1z7, k1r0, k1r1, k1r2, k1r3, k1r4, k1r5, k1r6, k1w, k109, k109a, k109b, k109c, k109d, k109e, k109f, k109g, kr110, kr112, kr114, kr116, kr118, kr120, kr122]
    rw [if_neg (by omega), if_neg (by omega), if_neg (by omega), if_neg (by omega), if_neg (by omega), if_neg (by omega), if_neg (by omega), if_pos (by omega)] at hP
    exact c_Rows_size bk1.r5 (by rw [h.2.1.k.1]; exact hP)
  · refine sX5_howMany_134 _ _ _ _ _ ?_
    simp only [tX5_howMany_134, w_ic, w_lc, w_lds, w_ild, w_lld, w_ald, w_ist, w_lst, w_ast, w_iinc, w_iadd, w_isub, w_imul, w_idiv, w_irem, w_iand, w_ior, w_ixor, w_ishl, w_ishr, w_iushr, w_ineg, w_ladd, w_lsub, w_lmul, w_ldiv, w_lrem, w_lcmp, w_i2l, w_l2i, w_dup, w_pop, w_dup2, w_ieq, w_zeq, w_ine, w_zne, w_ilt, w_zlt, w_ige, w_zge, w_igt, w_zgt, w_ile, w_zle, w_cut, w_tsw, zsw, w_iret, w_zret, w_lret, w_vret, w_nret, w_getI, w_getJ, w_getR, w_putI, w_putZ, w_putJ, w_iald, w_zald, w_iast, w_zast, w_alen, w_sI, w_sJ, w_sV, w_vI, w_vJ, w_vV, w_tI, w_mmax, w_mmin, w_mabs, w_lmax, w_acopy, gL, sL, kl_i, kl_l, kl_r, kl_s, kl_m, qI_i, qJ_l, qA_r, qA_s, pI_i, pJ_l, pA_r, pS_s, pM_m, pV_v, c1_i, c1_r, c1_s, c1_m, cS_0, cS_i, cS_l, cS_r, cS_s, cS_m, pN, z_rc_r, zE1, zE2, zE3, true_and, and_true, Nat.zero_add, Nat.reduceAdd, Nat.reduceLeDiff, true_or, or_true, q0, qp4, qp5, qp8, qp9, qf0, qz0, qf1, qz1, qf2, qz2, qf3, qz3, qf6, qz6, qf7, qz7, qf10, qz10, qf11, qz11, qf12, qz12, qf13, qz13, qf14, qz14, k1o, k1m, k1f0, k1z0, k1f1, k1z1, k1f2, k1z2, k1f3, k1z3, k1f4, k1z4, k1f5, k1z5, k1f6, k1z6, k1f7, k1z7, k1r0, k1r1, k1r2, k1r3, k1r4, k1r5, k1r6, k1w, k109, k109a, k109b, k109c, k109d, k109e, k109f, k109g, kr110, kr112, kr114, kr116, kr118, kr120, kr122]
    rw [if_neg (by omega), if_neg (by omega), if_neg (by omega), if_neg (by omega), if_neg (by omega), if_neg (by omega), if_neg (by omega), if_neg (by omega), if_pos (by omega)] at hP
    exact c_Rows_size bk1.r6 (by rw [h.2.1.p.1]; exact hP)
  · refine sX5_howMany_145 _ _ _ _ _ ?_
    simp only [tX5_howMany_145, w_ic, w_lc, w_lds, w_ild, w_lld, w_ald, w_ist, w_lst, w_ast, w_iinc, w_iadd, w_isub, w_imul, w_idiv, w_irem, w_iand, w_ior, w_ixor, w_ishl, w_ishr, w_iushr, w_ineg, w_ladd, w_lsub, w_lmul, w_ldiv, w_lrem, w_lcmp, w_i2l, w_l2i, w_dup, w_pop, w_dup2, w_ieq, w_zeq, w_ine, w_zne, w_ilt, w_zlt, w_ige, w_zge, w_igt, w_zgt, w_ile, w_zle, w_cut, w_tsw, zsw, w_iret, w_zret, w_lret, w_vret, w_nret, w_getI, w_getJ, w_getR, w_putI, w_putZ, w_putJ, w_iald, w_zald, w_iast, w_zast, w_alen, w_sI, w_sJ, w_sV, w_vI, w_vJ, w_vV, w_tI, w_mmax, w_mmin, w_mabs, w_lmax, w_acopy, gL, sL, kl_i, kl_l, kl_r, kl_s, kl_m, qI_i, qJ_l, qA_r, qA_s, pI_i, pJ_l, pA_r, pS_s, pM_m, pV_v, c1_i, c1_r, c1_s, c1_m, cS_0, cS_i, cS_l, cS_r, cS_s, cS_m, pN, z_rc_r, zE1, zE2, zE3, true_and, and_true, Nat.zero_add, Nat.reduceAdd, Nat.reduceLeDiff, true_or, or_true, q0, qp4, qp5, qp8, qp9, qf0, qz0, qf1, qz1, qf2, qz2, qf3, qz3, qf6, qz6, qf7, qz7, qf10, qz10, qf11, qz11, qf12, qz12, qf13, qz13, qf14, qz14, k1o, k1m, k1f0, k1z0, k1f1, k1z1, k1f2, k1z2, k1f3, k1z3, k1f4, k1z4, k1f5, k1z5, k1f6, k1z6, k1f7, k1z7, k1r0, k1r1, k1r2, k1r3, k1r4, k1r5, k1r6, k1w, k109, k109a, k109b, k109c, k109d, k109e, k109f, k109g, kr110, kr112, kr114, kr116, kr118, kr120, kr122]
    rw [if_neg (by omega), if_neg (by omega), if_neg (by omega), if_neg (by omega), if_neg (by omega), if_neg (by omega), if_neg (by omega), if_neg (by omega), if_neg (by omega)] at hP
    refine e_X1_length ?_
    simp only [tX1_length_0, w_ic, w_lc, w_lds, w_ild, w_lld, w_ald, w_ist, w_lst, w_ast, w_iinc, w_iadd, w_isub, w_imul, w_idiv, w_irem, w_iand, w_ior, w_ixor, w_ishl, w_ishr, w_iushr, w_ineg, w_ladd, w_lsub, w_lmul, w_ldiv, w_lrem, w_lcmp, w_i2l, w_l2i, w_dup, w_pop, w_dup2, w_ieq, w_zeq, w_ine, w_zne, w_ilt, w_zlt, w_ige, w_zge, w_igt, w_zgt, w_ile, w_zle, w_cut, w_tsw, zsw, w_iret, w_zret, w_lret, w_vret, w_nret, w_getI, w_getJ, w_getR, w_putI, w_putZ, w_putJ, w_iald, w_zald, w_iast, w_zast, w_alen, w_sI, w_sJ, w_sV, w_vI, w_vJ, w_vV, w_tI, w_mmax, w_mmin, w_mabs, w_lmax, w_acopy, gL, sL, kl_i, kl_l, kl_r, kl_s, kl_m, qI_i, qJ_l, qA_r, qA_s, pI_i, pJ_l, pA_r, pS_s, pM_m, pV_v, c1_i, c1_r, c1_s, c1_m, cS_0, cS_i, cS_l, cS_r, cS_s, cS_m, pN, z_rc_r, zE1, zE2, zE3, true_and, and_true, Nat.zero_add, Nat.reduceAdd, Nat.reduceLeDiff, true_or, or_true, q0, qp4, qp5, qp8, qp9, qf0, qz0, qf1, qz1, qf2, qz2, qf3, qz3, qf6, qz6, qf7, qz7, qf10, qz10, qf11, qz11, qf12, qz12, qf13, qz13, qf14, qz14, k1o, k1m, k1f0, k1z0, k1f1, k1z1, k1f2, k1z2, k1f3, k1z3, k1f4, k1z4, k1f5, k1z5, k1f6, k1z6, k1f7, k1z7, k1r0, k1r1, k1r2, k1r3, k1r4, k1r5, k1r6, k1w, k109, k109a, k109b, k109c, k109d, k109e, k109f, k109g, kr110, kr112, kr114, kr116, kr118, kr120, kr122]
    rw [hC.2.1.1]
    exact hP
noncomputable def r_count (s : Mem) (w : Int) : Int × Mem := cIf (0 ≤ w ∧ w ≤ 9) (sHow s w, s) (-2, sRf s 3)
theorem v_count {n w : Int} {s : Mem} (hW : WS n s) (hn : n < 1000000) : cOK miX5_count [zr 0, zi w] s (r_count s w) := by
  intro D P hC hP
  unfold r_count at hP
  refine e_X5_count ?_
  simp only [tX5_count_0, w_ic, w_lc, w_lds, w_ild, w_lld, w_ald, w_ist, w_lst, w_ast, w_iinc, w_iadd, w_isub, w_imul, w_idiv, w_irem, w_iand, w_ior, w_ixor, w_ishl, w_ishr, w_iushr, w_ineg, w_ladd, w_lsub, w_lmul, w_ldiv, w_lrem, w_lcmp, w_i2l, w_l2i, w_dup, w_pop, w_dup2, w_ieq, w_zeq, w_ine, w_zne, w_ilt, w_zlt, w_ige, w_zge, w_igt, w_zgt, w_ile, w_zle, w_cut, w_tsw, zsw, w_iret, w_zret, w_lret, w_vret, w_nret, w_getI, w_getJ, w_getR, w_putI, w_putZ, w_putJ, w_iald, w_zald, w_iast, w_zast, w_alen, w_sI, w_sJ, w_sV, w_vI, w_vJ, w_vV, w_tI, w_mmax, w_mmin, w_mabs, w_lmax, w_acopy, gL, sL, kl_i, kl_l, kl_r, kl_s, kl_m, qI_i, qJ_l, qA_r, qA_s, pI_i, pJ_l, pA_r, pS_s, pM_m, pV_v, c1_i, c1_r, c1_s, c1_m, cS_0, cS_i, cS_l, cS_r, cS_s, cS_m, pN, z_rc_r, zE1, zE2, zE3, true_and, and_true, Nat.zero_add, Nat.reduceAdd, Nat.reduceLeDiff, true_or, or_true, q0, qp4, qp5, qp8, qp9, qf0, qz0, qf1, qz1, qf2, qz2, qf3, qz3, qf6, qz6, qf7, qz7, qf10, qz10, qf11, qz11, qf12, qz12, qf13, qz13, qf14, qz14, k1o, k1m, k1f0, k1z0, k1f1, k1z1, k1f2, k1z2, k1f3, k1z3, k1f4, k1z4, k1f5, k1z5, k1f6, k1z6, k1f7, k1z7, k1r0, k1r1, k1r2, k1r3, k1r4, k1r5, k1r6, k1w, k109, k109a, k109b, k109c, k109d, k109e, k109f, k109g, kr110, kr112, kr114, kr116, kr118, kr120, kr122]
  refine c_within (fun c2 c3 => ⟨fun _ => ?_, fun w => absurd (by decide) w⟩) (fun q => ⟨fun w => absurd rfl w, fun _ => ?_⟩)
  · rw [cIf_t ⟨c2, c3⟩] at hP
    exact c_howMany hC c2 c3 (hP D Fr.rfl hC)
  · rw [cIf_f (by omega)] at hP
    exact c_bad hC hW hn hP
