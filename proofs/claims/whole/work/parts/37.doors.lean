/-! ===== 37: doors ===== -/
def zMn : Nat → (Int → Int) → Int
  | 0, _ => -1
  | n + 1, f => if f n = -1 then zMn n f else if zMn n f = -1 then f n else if f n < zMn n f then f n else zMn n f
theorem zMn_s {f : Int → Int} {i : Int} (h : 0 ≤ i) : zMn (i + 1).toNat f = if f i = -1 then zMn i.toNat f else if zMn i.toNat f = -1 then f i else if f i < zMn i.toNat f then f i else zMn i.toNat f := by
  rw [show (i + 1).toNat = i.toNat + 1 by omega]
  show (if f (i.toNat : Int) = -1 then zMn i.toNat f else if zMn i.toNat f = -1 then f (i.toNat : Int) else if f (i.toNat : Int) < zMn i.toNat f then f (i.toNat : Int) else zMn i.toNat f) = _
  rw [Int.toNat_of_nonneg h]
theorem zMn_eq {f f' : Int → Int} : ∀ n : Nat, (∀ k : Int, 0 ≤ k → k < n → f k = f' k) → zMn n f = zMn n f'
  | 0, _ => rfl
  | n + 1, h => by
    show (if f n = -1 then zMn n f else if zMn n f = -1 then f n else if f n < zMn n f then f n else zMn n f) = (if f' n = -1 then zMn n f' else if zMn n f' = -1 then f' n else if f' n < zMn n f' then f' n else zMn n f')
    rw [zMn_eq n (fun k k0 k1 => h k k0 (by omega)), h n (by omega) (by omega)]
def zJn (x y : Int) : Int := if x = -1 ∨ y = -1 then -1 else x + y
noncomputable def sDs (a : Int → Int) (i j : Int) : Int := sD (sOp a) (a (22 + j)) (a (34 + i))
/-- the least that is left to go, when those in t are taken and r are still to choose -/
noncomputable def sLw (n : Int) (d : Int → Int → Int) : Nat → Int → Int
  | 0, _ => 0
  | r + 1, t => zMn n.toNat (fun j => if zbt t j = 1 then -1 else zJn (d (n - (r + 1)) j) (sLw n d r (t + 2 ^ j.toNat)))
noncomputable def sLe (n : Int) (d : Int → Int → Int) (t : Int) : Int := sLw n d (n - zpc t).toNat t
noncomputable def sWy (n : Int) (d : Int → Int → Int) (c j t : Int) : Int := zJn (d c j) (sLe n d (t + 2 ^ j.toNat))
noncomputable def sFh (n : Int) (d : Int → Int → Int) (c t : Int) : Int := zFst (fun j => zbt t j = 0 ∧ sWy n d c j t = sLe n d t) n.toNat
noncomputable def sTk (n : Int) (d : Int → Int → Int) : Nat → Int
  | 0 => 0
  | c + 1 => sTk n d c + 2 ^ (sFh n d c (sTk n d c)).toNat
theorem t_al1 : ∀ t : Nat, t < 64 → ∀ j : Nat, j < 6 → (zbt t j = 0 → bO t (bL 1 j) = t + 2 ^ j ∧ zpc (t + 2 ^ j) = zpc t + 1) := by decide +kernel
theorem t_al2 : ∀ t : Nat, t < 64 → ∀ j : Nat, j < 6 → ∀ n : Nat, n < 7 → (zbt t j = 0 ∧ t < 2 ^ n ∧ j < n → (t : Int) + 2 ^ j < 2 ^ n) := by decide +kernel
theorem t_pc1 : ∀ n : Nat, n < 7 → zpc (2 ^ n - 1) = n := by decide +kernel
theorem t_pc2 : ∀ n : Nat, n < 7 → ∀ t : Nat, t < 64 → (t < 2 ^ n → zpc t ≤ n ∧ (t + 1 < 2 ^ n → zpc t < n)) := by decide +kernel
theorem t_sh : ∀ n : Nat, n < 7 → bL 1 n = 2 ^ n := by decide +kernel
theorem t_ad {t j n : Int} (t0 : 0 ≤ t) (t1 : t < 2 ^ n.toNat) (n0 : 0 ≤ n) (n1 : n ≤ 6) (j0 : 0 ≤ j) (j1 : j < n) (h : zbt t j = 0) : bO t (bL 1 j) = t + 2 ^ j.toNat ∧ zpc (t + 2 ^ j.toNat) = zpc t + 1 ∧ t < t + 2 ^ j.toNat ∧ t + 2 ^ j.toNat < 2 ^ n.toNat := by
  obtain ⟨k, rfl⟩ := Int.eq_ofNat_of_zero_le t0
  obtain ⟨i, rfl⟩ := Int.eq_ofNat_of_zero_le j0
  obtain ⟨m, rfl⟩ := Int.eq_ofNat_of_zero_le n0
  rw [Int.toNat_natCast] at t1 ⊢
  rw [Int.toNat_natCast]
  have e : ((2 : Int) ^ m) = ((2 ^ m : Nat) : Int) := by simp
  have hm : 2 ^ m ≤ 2 ^ 6 := Nat.pow_le_pow_right (by decide) (by omega)
  have hk : k < 2 ^ m := by omega
  obtain ⟨h1, h2⟩ := t_al1 k (by omega) i (by omega) h
  have hp : (0 : Int) < 2 ^ i := Int.pow_pos (by decide)
  exact ⟨h1, h2, by omega, t_al2 k (by omega) i (by omega) m (by omega) ⟨h, hk, by omega⟩⟩
theorem t_pcb {t n : Int} (t0 : 0 ≤ t) (t1 : t < 2 ^ n.toNat) (n0 : 0 ≤ n) (n1 : n ≤ 6) : 0 ≤ zpc t ∧ zpc t ≤ n ∧ (t + 1 < 2 ^ n.toNat → zpc t < n) := by
  obtain ⟨k, rfl⟩ := Int.eq_ofNat_of_zero_le t0
  obtain ⟨m, rfl⟩ := Int.eq_ofNat_of_zero_le n0
  rw [Int.toNat_natCast] at t1 ⊢
  have e : ((2 : Int) ^ m) = ((2 ^ m : Nat) : Int) := by simp
  have hm : 2 ^ m ≤ 2 ^ 6 := Nat.pow_le_pow_right (by decide) (by omega)
  have := t_pc2 m (by omega) k (by omega) (by omega)
  exact ⟨by unfold zpc; omega, this.1, fun h => this.2 (by omega)⟩
theorem p2_6 {n : Int} (n0 : 0 ≤ n) (n1 : n ≤ 6) : (1 : Int) ≤ 2 ^ n.toNat ∧ (2 : Int) ^ n.toNat ≤ 64 ∧ bL 1 n = 2 ^ n.toNat ∧ zpc (2 ^ n.toNat - 1) = n := by
  obtain ⟨m, rfl⟩ := Int.eq_ofNat_of_zero_le n0
  rw [Int.toNat_natCast]
  have h : ∀ m : Nat, m < 7 → (1 : Int) ≤ 2 ^ m ∧ (2 : Int) ^ m ≤ 64 := by decide
  exact ⟨(h m (by omega)).1, (h m (by omega)).2, t_sh m (by omega), t_pc1 m (by omega)⟩
theorem sDs_b {a : Int → Int} (h : W1 a) {i j : Int} (i0 : 0 ≤ i) (i1 : i < a 1) (j0 : 0 ≤ j) (j1 : j < a 1) : -1 ≤ sDs a i j ∧ sDs a i j < 20 := ⟨sD_le _ _ _, sD_lt (h.2 j j0 j1).2.1 (h.2 i i0 i1).2.2.2.1⟩
theorem sL_b {n : Int} {d : Int → Int → Int} (n1 : n ≤ 6) (hd : ∀ i j, 0 ≤ i → i < n → 0 ≤ j → j < n → -1 ≤ d i j ∧ d i j < 20) : ∀ (r : Nat) (t : Int), (r : Int) ≤ n → -1 ≤ sLw n d r t ∧ sLw n d r t ≤ 20 * r
  | 0, t, _ => ⟨by show (-1 : Int) ≤ 0; decide, by show (0 : Int) ≤ _; omega⟩
  | r + 1, t, hr => by
    have ih := fun t => sL_b n1 hd r t (by omega)
    have key : ∀ m : Nat, (m : Int) ≤ n → -1 ≤ zMn m (fun j => if zbt t j = 1 then -1 else zJn (d (n - (r + 1)) j) (sLw n d r (t + 2 ^ j.toNat))) ∧ zMn m (fun j => if zbt t j = 1 then -1 else zJn (d (n - (r + 1)) j) (sLw n d r (t + 2 ^ j.toNat))) ≤ 20 * ((r + 1 : Nat) : Int) := by
      intro m
      induction m with
      | zero => intro _; exact ⟨Int.le_refl _, by show (-1 : Int) ≤ _; omega⟩
      | succ m ihm =>
        intro hm
        have h1 := ihm (by omega)
        have h2 : -1 ≤ (if zbt t m = 1 then -1 else zJn (d (n - (r + 1)) m) (sLw n d r (t + 2 ^ (m : Int).toNat))) ∧ (if zbt t m = 1 then -1 else zJn (d (n - (r + 1)) m) (sLw n d r (t + 2 ^ (m : Int).toNat))) ≤ 20 * ((r + 1 : Nat) : Int) := by
          have g1 := hd (n - (r + 1)) m (by omega) (by omega) (by omega) (by omega)
          have g2 := ih (t + 2 ^ (m : Int).toNat)
          unfold zJn
          split
          · omega
          · split <;> omega
        have e := zMn_s (f := fun j => if zbt t j = 1 then -1 else zJn (d (n - (r + 1)) j) (sLw n d r (t + 2 ^ j.toNat))) (i := m) (by omega)
        rw [show ((m : Int) + 1).toNat = m + 1 by omega, Int.toNat_natCast] at e
        rw [Int.toNat_natCast] at h2
        generalize (if zbt t (m : Int) = 1 then (-1 : Int) else zJn (d (n - ((r : Int) + 1)) (m : Int)) (sLw n d r (t + 2 ^ m))) = z at h2 e
        rw [e]
        split
        · exact h1
        · split
          · exact h2
          · split
            · exact h2
            · exact h1
    have := key n.toNat (by omega)
    exact this
/-- the rows as they stand: steps to homes, the least behind those above lo -/
def zHm (D : Mem) (a : Int → Int) : Prop := ∀ i j, 0 ≤ i → i < a 1 → 0 ≤ j → j < a 1 → D 121 (6 * i + j) = sDs a i j
def zLs (D : Mem) (a : Int → Int) (lo : Int) : Prop := ∀ t, lo < t → t < 2 ^ (a 1).toNat → D 123 t = sLe (a 1) (sDs a) t
theorem c_wayThrough {D s : Mem} {c j t : Int} {P : Int → Mem → Prop} (hC : CS D s) (hH : zHm D (s 0)) (hL : zLs D (s 0) t) (c0 : 0 ≤ c) (c1 : c < s 0 1) (j0 : 0 ≤ j) (j1 : j < s 0 1) (t0 : 0 ≤ t) (t1 : t < 2 ^ (s 0 1).toNat) (hb : zbt t j = 0) (hP : P (sWy (s 0 1) (sDs (s 0)) c j t) D) : zC miX5_wayThrough [zr 0, zi c, zi j, zi t] D P := by
  have w := hC.1.1.2.2.1
  have n1 := w.n1
  have i36 : ((36 : Nat) : Int) = 36 := rfl
  have i64 : ((64 : Nat) : Int) = 64 := rfl
  have h2 := p2_6 n1.1 n1.2
  obtain ⟨e1, e2, e3, e4⟩ := t_ad t0 t1 n1.1 n1.2 j0 j1 hb
  have hd := sDs_b w.w1 c0 c1 j0 j1
  have hl : -1 ≤ sLe (s 0 1) (sDs (s 0)) (t + 2 ^ j.toNat) ∧ sLe (s 0 1) (sDs (s 0)) (t + 2 ^ j.toNat) ≤ 200 := by
    have hz := t_pcb (t := t + 2 ^ j.toNat) (by omega) e4 n1.1 n1.2
    have := sL_b (d := sDs (s 0)) n1.2 (fun i j a b c d => sDs_b w.w1 a b c d) (s 0 1 - zpc (t + 2 ^ j.toNat)).toNat (t + 2 ^ j.toNat) (by omega)
    unfold sLe
    omega
  unfold sWy zJn at hP
  refine e_X5_wayThrough ?_
  simp only [tX5_wayThrough_0, w_ic, w_lc, w_lds, w_ild, w_lld, w_ald, w_ist, w_lst, w_ast, w_iinc, w_iadd, w_isub, w_imul, w_idiv, w_irem, w_iand, w_ior, w_ixor, w_ishl, w_ishr, w_iushr, w_ineg, w_ladd, w_lsub, w_lmul, w_ldiv, w_lrem, w_lcmp, w_i2l, w_l2i, w_dup, w_pop, w_dup2, w_ieq, w_zeq, w_ine, w_zne, w_ilt, w_zlt, w_ige, w_zge, w_igt, w_zgt, w_ile, w_zle, w_cut, w_tsw, zsw, w_iret, w_zret, w_lret, w_vret, w_nret, w_getI, w_getJ, w_getR, w_putI, w_putZ, w_putJ, w_iald, w_zald, w_iast, w_zast, w_alen, w_sI, w_sJ, w_sV, w_vI, w_vJ, w_vV, w_tI, w_mmax, w_mmin, w_mabs, w_lmax, w_acopy, gL, sL, kl_i, kl_l, kl_r, kl_s, kl_m, qI_i, qJ_l, qA_r, qA_s, pI_i, pJ_l, pA_r, pS_s, pM_m, pV_v, c1_i, c1_r, c1_s, c1_m, cS_0, cS_i, cS_l, cS_r, cS_s, cS_m, pN, z_rc_r, zE1, zE2, zE3, true_and, and_true, Nat.zero_add, Nat.reduceAdd, Nat.reduceLeDiff, true_or, or_true, q0, qp4, qp5, qp8, qp9, qf0, qz0, qf1, qz1, qf2, qz2, qf3, qz3, qf6, qz6, qf7, qz7, qf10, qz10, qf11, qz11, qf12, qz12, qf13, qz13, qf14, qz14, k1o, k1m, k1f0, k1z0, k1f1, k1z1, k1f2, k1z2, k1f3, k1z3, k1f4, k1z4, k1f5, k1z5, k1f6, k1z6, k1f7, k1z7, k1r0, k1r1, k1r2, k1r3, k1r4, k1r5, k1r6, k1w, k109, k109a, k109b, k109c, k109d, k109e, k109f, k109g, kr110, kr112, kr114, kr116, kr118, kr120, kr122]
  refine ⟨⟨by omega, by omega⟩, ⟨by omega, by omega⟩, ?_⟩
  refine c_Row_get p120 (by omega) (by omega) ?_
  rw [hH c j c0 c1 j0 j1, e1]
  refine c_Row_get p122 (by omega) (by omega) ?_
  rw [hL _ e3 e4]
  refine ⟨fun q => ?_, fun q => ⟨fun q2 => ⟨⟨by omega, by omega⟩, ?_⟩, fun q2 => ?_⟩⟩
  · rw [if_pos (Or.inl q)] at hP
    exact hP
  · rw [if_neg (by omega)] at hP
    exact hP
  · rw [if_pos (Or.inr (Decidable.not_not.mp q2))] at hP
    exact hP
theorem c_leastBehind {D s : Mem} {t : Int} {P : Int → Mem → Prop} (hC : CS D s) (hH : zHm D (s 0)) (hL : zLs D (s 0) t) (t0 : 0 ≤ t) (t1 : t + 1 < 2 ^ (s 0 1).toNat) (hP : P (sLe (s 0 1) (sDs (s 0)) t) D) : zC miX5_leastBehind [zr 0, zi t] D P := by
  have w := hC.1.1.2.2.1
  have n1 := w.n1
  have h2 := p2_6 n1.1 n1.2
  have hz := t_pcb t0 (by omega) n1.1 n1.2
  have hz3 := hz.2.2 t1
  have eL : sLe (s 0 1) (sDs (s 0)) t = zMn (s 0 1).toNat (fun j => if zbt t j = 1 then -1 else sWy (s 0 1) (sDs (s 0)) (zpc t) j t) := by
    unfold sLe
    obtain ⟨r, hr⟩ : ∃ r : Nat, (s 0 1 - zpc t).toNat = r + 1 := ⟨(s 0 1 - zpc t).toNat - 1, by omega⟩
    rw [hr]
    show zMn (s 0 1).toNat _ = _
    refine zMn_eq _ fun m m0 m1 => ?_
    rcases zbt_1 (x := t) (k := m) with q | q
    · rw [if_neg (by omega), if_neg (by omega)]
      obtain ⟨-, g2, -, g4⟩ := t_ad t0 (by omega) n1.1 n1.2 m0 (by omega) q
      unfold sWy sLe
      rw [g2, show s 0 1 - (r + 1 : Int) = zpc t by omega, show (s 0 1 - (zpc t + 1)).toNat = r by omega]
    · rw [if_pos q, if_pos q]
  rw [eL] at hP
  have wb : ∀ j, 0 ≤ j → j < s 0 1 → zbt t j = 0 → -1 ≤ sWy (s 0 1) (sDs (s 0)) (zpc t) j t := by
    intro j j0 j1 q
    obtain ⟨-, g2, g3, g4⟩ := t_ad t0 (by omega) n1.1 n1.2 j0 j1 q
    have hd := sDs_b w.w1 hz.1 hz3 j0 j1
    have hzz := t_pcb (t := t + 2 ^ j.toNat) (by omega) g4 n1.1 n1.2
    have := sL_b (d := sDs (s 0)) n1.2 (fun i j a b c d => sDs_b w.w1 a b c d) (s 0 1 - zpc (t + 2 ^ j.toNat)).toNat (t + 2 ^ j.toNat) (by omega)
    unfold sWy zJn sLe
    split <;> omega
  have loop : ∀ (r : Nat) (j : Int) (v : AV), (s 0 1 - j).toNat = r → 0 ≤ j → j ≤ s 0 1 → zW miX5_leastBehind P 10 [zr 0, zi t, zi (zpc t), zi (zMn j.toNat (fun j => if zbt t j = 1 then -1 else sWy (s 0 1) (sDs (s 0)) (zpc t) j t)), zi j, v] D := by
    intro r
    induction r with
    | zero =>
      intro j v hr j0 j1
      refine sX5_leastBehind_10 _ _ _ _ _ ?_
      simp only [tX5_leastBehind_10, w_ic, w_lc, w_lds, w_ild, w_lld, w_ald, w_ist, w_lst, w_ast, w_iinc, w_iadd, w_isub, w_imul, w_idiv, w_irem, w_iand, w_ior, w_ixor, w_ishl, w_ishr, w_iushr, w_ineg, w_ladd, w_lsub, w_lmul, w_ldiv, w_lrem, w_lcmp, w_i2l, w_l2i, w_dup, w_pop, w_dup2, w_ieq, w_zeq, w_ine, w_zne, w_ilt, w_zlt, w_ige, w_zge, w_igt, w_zgt, w_ile, w_zle, w_cut, w_tsw, zsw, w_iret, w_zret, w_lret, w_vret, w_nret, w_getI, w_getJ, w_getR, w_putI, w_putZ, w_putJ, w_iald, w_zald, w_iast, w_zast, w_alen, w_sI, w_sJ, w_sV, w_vI, w_vJ, w_vV, w_tI, w_mmax, w_mmin, w_mabs, w_lmax, w_acopy, gL, sL, kl_i, kl_l, kl_r, kl_s, kl_m, qI_i, qJ_l, qA_r, qA_s, pI_i, pJ_l, pA_r, pS_s, pM_m, pV_v, c1_i, c1_r, c1_s, c1_m, cS_0, cS_i, cS_l, cS_r, cS_s, cS_m, pN, z_rc_r, zE1, zE2, zE3, true_and, and_true, Nat.zero_add, Nat.reduceAdd, Nat.reduceLeDiff, true_or, or_true, q0, qp4, qp5, qp8, qp9, qf0, qz0, qf1, qz1, qf2, qz2, qf3, qz3, qf6, qz6, qf7, qz7, qf10, qz10, qf11, qz11, qf12, qz12, qf13, qz13, qf14, qz14, k1o, k1m, k1f0, k1z0, k1f1, k1z1, k1f2, k1z2, k1f3, k1z3, k1f4, k1z4, k1f5, k1z5, k1f6, k1z6, k1f7, k1z7, k1r0, k1r1, k1r2, k1r3, k1r4, k1r5, k1r6, k1w, k109, k109a, k109b, k109c, k109d, k109e, k109f, k109g, kr110, kr112, kr114, kr116, kr118, kr120, kr122]
      refine c_gsize bk1 hC.1.1 ⟨fun _ => ?_, fun q => absurd (by omega) q⟩
      rw [show j = s 0 1 by omega]
      exact hP
    | succ r ih =>
      intro j v hr j0 j1
      have nx := fun v => ih (j + 1) v (by omega) (by omega) (by omega)
      rw [zMn_s j0] at nx
      refine sX5_leastBehind_10 _ _ _ _ _ ?_
      simp only [tX5_leastBehind_10, w_ic, w_lc, w_lds, w_ild, w_lld, w_ald, w_ist, w_lst, w_ast, w_iinc, w_iadd, w_isub, w_imul, w_idiv, w_irem, w_iand, w_ior, w_ixor, w_ishl, w_ishr, w_iushr, w_ineg, w_ladd, w_lsub, w_lmul, w_ldiv, w_lrem, w_lcmp, w_i2l, w_l2i, w_dup, w_pop, w_dup2, w_ieq, w_zeq, w_ine, w_zne, w_ilt, w_zlt, w_ige, w_zge, w_igt, w_zgt, w_ile, w_zle, w_cut, w_tsw, zsw, w_iret, w_zret, w_lret, w_vret, w_nret, w_getI, w_getJ, w_getR, w_putI, w_putZ, w_putJ, w_iald, w_zald, w_iast, w_zast, w_alen, w_sI, w_sJ, w_sV, w_vI, w_vJ, w_vV, w_tI, w_mmax, w_mmin, w_mabs, w_lmax, w_acopy, gL, sL, kl_i, kl_l, kl_r, kl_s, kl_m, qI_i, qJ_l, qA_r, qA_s, pI_i, pJ_l, pA_r, pS_s, pM_m, pV_v, c1_i, c1_r, c1_s, c1_m, cS_0, cS_i, cS_l, cS_r, cS_s, cS_m, pN, z_rc_r, zE1, zE2, zE3, true_and, and_true, Nat.zero_add, Nat.reduceAdd, Nat.reduceLeDiff, true_or, or_true, q0, qp4, qp5, qp8, qp9, qf0, qz0, qf1, qz1, qf2, qz2, qf3, qz3, qf6, qz6, qf7, qz7, qf10, qz10, qf11, qz11, qf12, qz12, qf13, qz13, qf14, qz14, k1o, k1m, k1f0, k1z0, k1f1, k1z1, k1f2, k1z2, k1f3, k1z3, k1f4, k1z4, k1f5, k1z5, k1f6, k1z6, k1f7, k1z7, k1r0, k1r1, k1r2, k1r3, k1r4, k1r5, k1r6, k1w, k109, k109a, k109b, k109c, k109d, k109e, k109f, k109g, kr110, kr112, kr114, kr116, kr118, kr120, kr122]
      rw [zbt_e t0 (by omega) j0 (by omega)]
      refine c_gsize bk1 hC.1.1 ⟨fun q => absurd q (by omega), fun _ => ⟨fun q => ?_, fun q => ⟨⟨by omega, by omega⟩, ?_⟩⟩⟩
      · have hb0 : zbt t j = 0 := by rcases zbt_1 (x := t) (k := j) with e | e <;> omega
        rw [if_neg q] at nx
        refine c_wayThrough hC hH hL hz.1 hz3 j0 (by omega) t0 (by omega) hb0 ?_
        refine ⟨fun q2 => ⟨⟨by omega, by omega⟩, ?_⟩, fun q2 => ⟨fun q3 => ⟨⟨by omega, by omega⟩, ?_⟩, fun q3 => ⟨fun q4 => ⟨⟨by omega, by omega⟩, ?_⟩, fun q4 => ⟨⟨by omega, by omega⟩, ?_⟩⟩⟩⟩
        · rw [if_pos q2] at nx
          exact nx _
        · rw [if_neg q2, if_pos q3] at nx
          exact nx _
        · rw [if_neg q2, if_neg q3, if_neg (by omega)] at nx
          exact nx _
        · rw [if_neg q2, if_neg q3, if_pos (by omega)] at nx
          exact nx _
      · rw [if_pos (Decidable.not_not.mp q), if_pos rfl] at nx
        exact nx _
  refine e_X5_leastBehind ?_
  simp only [tX5_leastBehind_0, w_ic, w_lc, w_lds, w_ild, w_lld, w_ald, w_ist, w_lst, w_ast, w_iinc, w_iadd, w_isub, w_imul, w_idiv, w_irem, w_iand, w_ior, w_ixor, w_ishl, w_ishr, w_iushr, w_ineg, w_ladd, w_lsub, w_lmul, w_ldiv, w_lrem, w_lcmp, w_i2l, w_l2i, w_dup, w_pop, w_dup2, w_ieq, w_zeq, w_ine, w_zne, w_ilt, w_zlt, w_ige, w_zge, w_igt, w_zgt, w_ile, w_zle, w_cut, w_tsw, zsw, w_iret, w_zret, w_lret, w_vret, w_nret, w_getI, w_getJ, w_getR, w_putI, w_putZ, w_putJ, w_iald, w_zald, w_iast, w_zast, w_alen, w_sI, w_sJ, w_sV, w_vI, w_vJ, w_vV, w_tI, w_mmax, w_mmin, w_mabs, w_lmax, w_acopy, gL, sL, kl_i, kl_l, kl_r, kl_s, kl_m, qI_i, qJ_l, qA_r, qA_s, pI_i, pJ_l, pA_r, pS_s, pM_m, pV_v, c1_i, c1_r, c1_s, c1_m, cS_0, cS_i, cS_l, cS_r, cS_s, cS_m, pN, z_rc_r, zE1, zE2, zE3, true_and, and_true, Nat.zero_add, Nat.reduceAdd, Nat.reduceLeDiff, true_or, or_true, q0, qp4, qp5, qp8, qp9, qf0, qz0, qf1, qz1, qf2, qz2, qf3, qz3, qf6, qz6, qf7, qz7, qf10, qz10, qf11, qz11, qf12, qz12, qf13, qz13, qf14, qz14, k1o, k1m, k1f0, k1z0, k1f1, k1z1, k1f2, k1z2, k1f3, k1z3, k1f4, k1z4, k1f5, k1z5, k1f6, k1z6, k1f7, k1z7, k1r0, k1r1, k1r2, k1r3, k1r4, k1r5, k1r6, k1w, k109, k109a, k109b, k109c, k109d, k109e, k109f, k109g, kr110, kr112, kr114, kr116, kr118, kr120, kr122]
  refine c_bitCount t0 (by omega) ?_
  exact loop _ 0 _ rfl (by omega) n1.1
theorem c_fillToHomes {D s : Mem} {P : Int → Mem → Prop} (hC : CS D s) (hP : ∀ D', Fr 0 124 D D' → CS D' s → zHm D' (s 0) → P 0 D') : zC miX5_fillToHomes [zr 0] D P := by
  have w := hC.1.1.2.2.1
  have n1 := w.n1
  have i36 : ((36 : Nat) : Int) = 36 := rfl
  have outer : ∀ (r : Nat) (i : Int) (v v2 : AV) (D2 : Mem), (s 0 1 - i).toNat = r → 0 ≤ i → i ≤ s 0 1 → Fr 0 124 D D2 → CS D2 s → (∀ i' j, 0 ≤ i' → i' < i → 0 ≤ j → j < s 0 1 → D2 121 (6 * i' + j) = sDs (s 0) i' j) → zW miX5_fillToHomes P 2 [zr 0, zi i, v, v2] D2 := by
    intro r
    induction r with
    | zero =>
      intro i v v2 D2 hr i0 i1 q1 q2 q3
      refine sX5_fillToHomes_2 _ _ _ _ _ ?_
      simp only [tX5_fillToHomes_2, w_ic, w_lc, w_lds, w_ild, w_lld, w_ald, w_ist, w_lst, w_ast, w_iinc, w_iadd, w_isub, w_imul, w_idiv, w_irem, w_iand, w_ior, w_ixor, w_ishl, w_ishr, w_iushr, w_ineg, w_ladd, w_lsub, w_lmul, w_ldiv, w_lrem, w_lcmp, w_i2l, w_l2i, w_dup, w_pop, w_dup2, w_ieq, w_zeq, w_ine, w_zne, w_ilt, w_zlt, w_ige, w_zge, w_igt, w_zgt, w_ile, w_zle, w_cut, w_tsw, zsw, w_iret, w_zret, w_lret, w_vret, w_nret, w_getI, w_getJ, w_getR, w_putI, w_putZ, w_putJ, w_iald, w_zald, w_iast, w_zast, w_alen, w_sI, w_sJ, w_sV, w_vI, w_vJ, w_vV, w_tI, w_mmax, w_mmin, w_mabs, w_lmax, w_acopy, gL, sL, kl_i, kl_l, kl_r, kl_s, kl_m, qI_i, qJ_l, qA_r, qA_s, pI_i, pJ_l, pA_r, pS_s, pM_m, pV_v, c1_i, c1_r, c1_s, c1_m, cS_0, cS_i, cS_l, cS_r, cS_s, cS_m, pN, z_rc_r, zE1, zE2, zE3, true_and, and_true, Nat.zero_add, Nat.reduceAdd, Nat.reduceLeDiff, true_or, or_true, q0, qp4, qp5, qp8, qp9, qf0, qz0, qf1, qz1, qf2, qz2, qf3, qz3, qf6, qz6, qf7, qz7, qf10, qz10, qf11, qz11, qf12, qz12, qf13, qz13, qf14, qz14, k1o, k1m, k1f0, k1z0, k1f1, k1z1, k1f2, k1z2, k1f3, k1z3, k1f4, k1z4, k1f5, k1z5, k1f6, k1z6, k1f7, k1z7, k1r0, k1r1, k1r2, k1r3, k1r4, k1r5, k1r6, k1w, k109, k109a, k109b, k109c, k109d, k109e, k109f, k109g, kr110, kr112, kr114, kr116, kr118, kr120, kr122]
      refine c_gsize bk1 q2.1.1 ⟨fun _ => hP D2 q1 q2 fun i' j a b c d => q3 i' j a (by omega) c d, fun q => absurd (by omega) q⟩
    | succ r ih =>
      intro i v v2 D2 hr i0 i1 q1 q2 q3
      refine sX5_fillToHomes_2 _ _ _ _ _ ?_
      simp only [tX5_fillToHomes_2, w_ic, w_lc, w_lds, w_ild, w_lld, w_ald, w_ist, w_lst, w_ast, w_iinc, w_iadd, w_isub, w_imul, w_idiv, w_irem, w_iand, w_ior, w_ixor, w_ishl, w_ishr, w_iushr, w_ineg, w_ladd, w_lsub, w_lmul, w_ldiv, w_lrem, w_lcmp, w_i2l, w_l2i, w_dup, w_pop, w_dup2, w_ieq, w_zeq, w_ine, w_zne, w_ilt, w_zlt, w_ige, w_zge, w_igt, w_zgt, w_ile, w_zle, w_cut, w_tsw, zsw, w_iret, w_zret, w_lret, w_vret, w_nret, w_getI, w_getJ, w_getR, w_putI, w_putZ, w_putJ, w_iald, w_zald, w_iast, w_zast, w_alen, w_sI, w_sJ, w_sV, w_vI, w_vJ, w_vV, w_tI, w_mmax, w_mmin, w_mabs, w_lmax, w_acopy, gL, sL, kl_i, kl_l, kl_r, kl_s, kl_m, qI_i, qJ_l, qA_r, qA_s, pI_i, pJ_l, pA_r, pS_s, pM_m, pV_v, c1_i, c1_r, c1_s, c1_m, cS_0, cS_i, cS_l, cS_r, cS_s, cS_m, pN, z_rc_r, zE1, zE2, zE3, true_and, and_true, Nat.zero_add, Nat.reduceAdd, Nat.reduceLeDiff, true_or, or_true, q0, qp4, qp5, qp8, qp9, qf0, qz0, qf1, qz1, qf2, qz2, qf3, qz3, qf6, qz6, qf7, qz7, qf10, qz10, qf11, qz11, qf12, qz12, qf13, qz13, qf14, qz14, k1o, k1m, k1f0, k1z0, k1f1, k1z1, k1f2, k1z2, k1f3, k1z3, k1f4, k1z4, k1f5, k1z5, k1f6, k1z6, k1f7, k1z7, k1r0, k1r1, k1r2, k1r3, k1r4, k1r5, k1r6, k1w, k109, k109a, k109b, k109c, k109d, k109e, k109f, k109g, kr110, kr112, kr114, kr116, kr118, kr120, kr122]
      refine c_gsize bk1 q2.1.1 ⟨fun q => absurd q (by omega), fun _ => ?_⟩
      have inner : ∀ (r : Nat) (j : Int) (v2 : AV) (D3 : Mem), (s 0 1 - j).toNat = r → 0 ≤ j → j ≤ s 0 1 → Fr 0 124 D D3 → CS D3 s → (∀ i' j', 0 ≤ i' → (i' < i ∨ (i' = i ∧ j' < j)) → 0 ≤ j' → j' < s 0 1 → D3 121 (6 * i' + j') = sDs (s 0) i' j') → zW miX5_fillToHomes P 18 [zr 0, zi i, zi j, v2] D3 := by
        intro r
        induction r with
        | zero =>
          intro j v2 D3 hr j0 j1 p1 p2 p3
          refine sX5_fillToHomes_18 _ _ _ _ _ ?_
          simp only [tX5_fillToHomes_18, w_ic, w_lc, w_lds, w_ild, w_lld, w_ald, w_ist, w_lst, w_ast, w_iinc, w_iadd, w_isub, w_imul, w_idiv, w_irem, w_iand, w_ior, w_ixor, w_ishl, w_ishr, w_iushr, w_ineg, w_ladd, w_lsub, w_lmul, w_ldiv, w_lrem, w_lcmp, w_i2l, w_l2i, w_dup, w_pop, w_dup2, w_ieq, w_zeq, w_ine, w_zne, w_ilt, w_zlt, w_ige, w_zge, w_igt, w_zgt, w_ile, w_zle, w_cut, w_tsw, zsw, w_iret, w_zret, w_lret, w_vret, w_nret, w_getI, w_getJ, w_getR, w_putI, w_putZ, w_putJ, w_iald, w_zald, w_iast, w_zast, w_alen, w_sI, w_sJ, w_sV, w_vI, w_vJ, w_vV, w_tI, w_mmax, w_mmin, w_mabs, w_lmax, w_acopy, gL, sL, kl_i, kl_l, kl_r, kl_s, kl_m, qI_i, qJ_l, qA_r, qA_s, pI_i, pJ_l, pA_r, pS_s, pM_m, pV_v, c1_i, c1_r, c1_s, c1_m, cS_0, cS_i, cS_l, cS_r, cS_s, cS_m, pN, z_rc_r, zE1, zE2, zE3, true_and, and_true, Nat.zero_add, Nat.reduceAdd, Nat.reduceLeDiff, true_or, or_true, q0, qp4, qp5, qp8, qp9, qf0, qz0, qf1, qz1, qf2, qz2, qf3, qz3, qf6, qz6, qf7, qz7, qf10, qz10, qf11, qz11, qf12, qz12, qf13, qz13, qf14, qz14, k1o, k1m, k1f0, k1z0, k1f1, k1z1, k1f2, k1z2, k1f3, k1z3, k1f4, k1z4, k1f5, k1z5, k1f6, k1z6, k1f7, k1z7, k1r0, k1r1, k1r2, k1r3, k1r4, k1r5, k1r6, k1w, k109, k109a, k109b, k109c, k109d, k109e, k109f, k109g, kr110, kr112, kr114, kr116, kr118, kr120, kr122]
          refine c_gsize bk1 p2.1.1 ⟨fun _ => ⟨⟨by omega, by omega⟩, ?_⟩, fun q => absurd (by omega) q⟩
          exact ih (i + 1) _ _ D3 (by omega) (by omega) (by omega) p1 p2 (fun i' j' a b c d => p3 i' j' a (by omega) c d)
        | succ r ihr =>
          intro j v2 D3 hr j0 j1 p1 p2 p3
          refine sX5_fillToHomes_18 _ _ _ _ _ ?_
          simp only [tX5_fillToHomes_18, w_ic, w_lc, w_lds, w_ild, w_lld, w_ald, w_ist, w_lst, w_ast, w_iinc, w_iadd, w_isub, w_imul, w_idiv, w_irem, w_iand, w_ior, w_ixor, w_ishl, w_ishr, w_iushr, w_ineg, w_ladd, w_lsub, w_lmul, w_ldiv, w_lrem, w_lcmp, w_i2l, w_l2i, w_dup, w_pop, w_dup2, w_ieq, w_zeq, w_ine, w_zne, w_ilt, w_zlt, w_ige, w_zge, w_igt, w_zgt, w_ile, w_zle, w_cut, w_tsw, zsw, w_iret, w_zret, w_lret, w_vret, w_nret, w_getI, w_getJ, w_getR, w_putI, w_putZ, w_putJ, w_iald, w_zald, w_iast, w_zast, w_alen, w_sI, w_sJ, w_sV, w_vI, w_vJ, w_vV, w_tI, w_mmax, w_mmin, w_mabs, w_lmax, w_acopy, gL, sL, kl_i, kl_l, kl_r, kl_s, kl_m, qI_i, qJ_l, qA_r, qA_s, pI_i, pJ_l, pA_r, pS_s, pM_m, pV_v, c1_i, c1_r, c1_s, c1_m, cS_0, cS_i, cS_l, cS_r, cS_s, cS_m, pN, z_rc_r, zE1, zE2, zE3, true_and, and_true, Nat.zero_add, Nat.reduceAdd, Nat.reduceLeDiff, true_or, or_true, q0, qp4, qp5, qp8, qp9, qf0, qz0, qf1, qz1, qf2, qz2, qf3, qz3, qf6, qz6, qf7, qz7, qf10, qz10, qf11, qz11, qf12, qz12, qf13, qz13, qf14, qz14, k1o, k1m, k1f0, k1z0, k1f1, k1z1, k1f2, k1z2, k1f3, k1z3, k1f4, k1z4, k1f5, k1z5, k1f6, k1z6, k1f7, k1z7, k1r0, k1r1, k1r2, k1r3, k1r4, k1r5, k1r6, k1w, k109, k109a, k109b, k109c, k109d, k109e, k109f, k109g, kr110, kr112, kr114, kr116, kr118, kr120, kr122]
          refine c_gsize bk1 p2.1.1 ⟨fun q => absurd q (by omega), fun _ => ?_⟩
          refine c_gget bk1 p2.1.1 i0 (by omega) (by omega) (by omega) ?_
          refine c_gget bk1 p2.1.1 j0 (by omega) (by omega) (by omega) ?_
          rw [show 16 + 6 * 3 + i = 34 + i by omega, show 16 + 6 * 1 + j = 22 + j by omega]
          refine c_stepsBetween bk1 p2.1.1 (w.w1.2 i i0 (by omega)).2.2.2.1 (w.w1.2 j j0 (by omega)).2.1 fun D4 d1 d2 => ?_
          have c4 : CS D4 s := p2.same (d1.wide (by omega) (by omega)) d2
          refine ⟨⟨by omega, by omega⟩, ⟨by omega, by omega⟩, ?_⟩
          refine c_Row_set p120 (by omega) (by omega) ⟨⟨by omega, by omega⟩, ?_⟩
          refine ihr (j + 1) _ _ (by omega) (by omega) (by omega) ((p1.trans (d1.wide (by omega) (by omega))).trans (Fr.up (by omega) (by omega))) (c4.scr (Fr.up (by omega) (by omega))) (fun i' j' a b c d => ?_)
          by_cases e : i' = i ∧ j' = j
          · rw [e.1, e.2, zU_s]; rfl
          · rw [zU_k (by omega), d1 121 (by omega)]
            exact p3 i' j' a (by omega) c d
      exact inner _ 0 _ D2 rfl (by omega) n1.1 q1 q2 (fun i' j' a b c d => q3 i' j' a (by omega) c d)
  refine e_X5_fillToHomes ?_
  simp only [tX5_fillToHomes_0, w_ic, w_lc, w_lds, w_ild, w_lld, w_ald, w_ist, w_lst, w_ast, w_iinc, w_iadd, w_isub, w_imul, w_idiv, w_irem, w_iand, w_ior, w_ixor, w_ishl, w_ishr, w_iushr, w_ineg, w_ladd, w_lsub, w_lmul, w_ldiv, w_lrem, w_lcmp, w_i2l, w_l2i, w_dup, w_pop, w_dup2, w_ieq, w_zeq, w_ine, w_zne, w_ilt, w_zlt, w_ige, w_zge, w_igt, w_zgt, w_ile, w_zle, w_cut, w_tsw, zsw, w_iret, w_zret, w_lret, w_vret, w_nret, w_getI, w_getJ, w_getR, w_putI, w_putZ, w_putJ, w_iald, w_zald, w_iast, w_zast, w_alen, w_sI, w_sJ, w_sV, w_vI, w_vJ, w_vV, w_tI, w_mmax, w_mmin, w_mabs, w_lmax, w_acopy, gL, sL, kl_i, kl_l, kl_r, kl_s, kl_m, qI_i, qJ_l, qA_r, qA_s, pI_i, pJ_l, pA_r, pS_s, pM_m, pV_v, c1_i, c1_r, c1_s, c1_m, cS_0, cS_i, cS_l, cS_r, cS_s, cS_m, pN, z_rc_r, zE1, zE2, zE3, true_and, and_true, Nat.zero_add, Nat.reduceAdd, Nat.reduceLeDiff, true_or, or_true, q0, qp4, qp5, qp8, qp9, qf0, qz0, qf1, qz1, qf2, qz2, qf3, qz3, qf6, qz6, qf7, qz7, qf10, qz10, qf11, qz11, qf12, qz12, qf13, qz13, qf14, qz14, k1o, k1m, k1f0, k1z0, k1f1, k1z1, k1f2, k1z2, k1f3, k1z3, k1f4, k1z4, k1f5, k1z5, k1f6, k1z6, k1f7, k1z7, k1r0, k1r1, k1r2, k1r3, k1r4, k1r5, k1r6, k1w, k109, k109a, k109b, k109c, k109d, k109e, k109f, k109g, kr110, kr112, kr114, kr116, kr118, kr120, kr122]
  exact outer _ 0 _ _ D rfl (by omega) n1.1 Fr.rfl hC (fun i' j a b => by omega)
theorem c_fillLeast {D s : Mem} {P : Int → Mem → Prop} (hC : CS D s) (hH : zHm D (s 0)) (hP : ∀ D', Fr 0 124 D D' → CS D' s → zHm D' (s 0) → zLs D' (s 0) (-1) → P 0 D') : zC miX5_fillLeast [zr 0] D P := by
  have w := hC.1.1.2.2.1
  have n1 := w.n1
  have i64 : ((64 : Nat) : Int) = 64 := rfl
  obtain ⟨h1, h2, h3, h4⟩ := p2_6 n1.1 n1.2
  have loop : ∀ (r : Nat) (t : Int) (D2 : Mem), (t + 1).toNat = r → -1 ≤ t → t + 1 < 2 ^ (s 0 1).toNat → Fr 0 124 D D2 → CS D2 s → zHm D2 (s 0) → zLs D2 (s 0) t → zW miX5_fillLeast P 28 [zr 0, zi (2 ^ (s 0 1).toNat - 1), zi t] D2 := by
    intro r
    induction r with
    | zero =>
      intro t D2 hr t0 t1 q1 q2 q3 q4
      refine sX5_fillLeast_28 _ _ _ _ _ ?_
      simp only [tX5_fillLeast_28, w_ic, w_lc, w_lds, w_ild, w_lld, w_ald, w_ist, w_lst, w_ast, w_iinc, w_iadd, w_isub, w_imul, w_idiv, w_irem, w_iand, w_ior, w_ixor, w_ishl, w_ishr, w_iushr, w_ineg, w_ladd, w_lsub, w_lmul, w_ldiv, w_lrem, w_lcmp, w_i2l, w_l2i, w_dup, w_pop, w_dup2, w_ieq, w_zeq, w_ine, w_zne, w_ilt, w_zlt, w_ige, w_zge, w_igt, w_zgt, w_ile, w_zle, w_cut, w_tsw, zsw, w_iret, w_zret, w_lret, w_vret, w_nret, w_getI, w_getJ, w_getR, w_putI, w_putZ, w_putJ, w_iald, w_zald, w_iast, w_zast, w_alen, w_sI, w_sJ, w_sV, w_vI, w_vJ, w_vV, w_tI, w_mmax, w_mmin, w_mabs, w_lmax, w_acopy, gL, sL, kl_i, kl_l, kl_r, kl_s, kl_m, qI_i, qJ_l, qA_r, qA_s, pI_i, pJ_l, pA_r, pS_s, pM_m, pV_v, c1_i, c1_r, c1_s, c1_m, cS_0, cS_i, cS_l, cS_r, cS_s, cS_m, pN, z_rc_r, zE1, zE2, zE3, true_and, and_true, Nat.zero_add, Nat.reduceAdd, Nat.reduceLeDiff, true_or, or_true, q0, qp4, qp5, qp8, qp9, qf0, qz0, qf1, qz1, qf2, qz2, qf3, qz3, qf6, qz6, qf7, qz7, qf10, qz10, qf11, qz11, qf12, qz12, qf13, qz13, qf14, qz14, k1o, k1m, k1f0, k1z0, k1f1, k1z1, k1f2, k1z2, k1f3, k1z3, k1f4, k1z4, k1f5, k1z5, k1f6, k1z6, k1f7, k1z7, k1r0, k1r1, k1r2, k1r3, k1r4, k1r5, k1r6, k1w, k109, k109a, k109b, k109c, k109d, k109e, k109f, k109g, kr110, kr112, kr114, kr116, kr118, kr120, kr122]
      rw [show t = -1 by omega] at q4
      exact ⟨fun _ => hP D2 q1 q2 q3 q4, fun q => absurd (by omega) q⟩
    | succ r ih =>
      intro t D2 hr t0 t1 q1 q2 q3 q4
      refine sX5_fillLeast_28 _ _ _ _ _ ?_
      simp only [tX5_fillLeast_28, w_ic, w_lc, w_lds, w_ild, w_lld, w_ald, w_ist, w_lst, w_ast, w_iinc, w_iadd, w_isub, w_imul, w_idiv, w_irem, w_iand, w_ior, w_ixor, w_ishl, w_ishr, w_iushr, w_ineg, w_ladd, w_lsub, w_lmul, w_ldiv, w_lrem, w_lcmp, w_i2l, w_l2i, w_dup, w_pop, w_dup2, w_ieq, w_zeq, w_ine, w_zne, w_ilt, w_zlt, w_ige, w_zge, w_igt, w_zgt, w_ile, w_zle, w_cut, w_tsw, zsw, w_iret, w_zret, w_lret, w_vret, w_nret, w_getI, w_getJ, w_getR, w_putI, w_putZ, w_putJ, w_iald, w_zald, w_iast, w_zast, w_alen, w_sI, w_sJ, w_sV, w_vI, w_vJ, w_vV, w_tI, w_mmax, w_mmin, w_mabs, w_lmax, w_acopy, gL, sL, kl_i, kl_l, kl_r, kl_s, kl_m, qI_i, qJ_l, qA_r, qA_s, pI_i, pJ_l, pA_r, pS_s, pM_m, pV_v, c1_i, c1_r, c1_s, c1_m, cS_0, cS_i, cS_l, cS_r, cS_s, cS_m, pN, z_rc_r, zE1, zE2, zE3, true_and, and_true, Nat.zero_add, Nat.reduceAdd, Nat.reduceLeDiff, true_or, or_true, q0, qp4, qp5, qp8, qp9, qf0, qz0, qf1, qz1, qf2, qz2, qf3, qz3, qf6, qz6, qf7, qz7, qf10, qz10, qf11, qz11, qf12, qz12, qf13, qz13, qf14, qz14, k1o, k1m, k1f0, k1z0, k1f1, k1z1, k1f2, k1z2, k1f3, k1z3, k1f4, k1z4, k1f5, k1z5, k1f6, k1z6, k1f7, k1z7, k1r0, k1r1, k1r2, k1r3, k1r4, k1r5, k1r6, k1w, k109, k109a, k109b, k109c, k109d, k109e, k109f, k109g, kr110, kr112, kr114, kr116, kr118, kr120, kr122]
      refine ⟨fun q => absurd q (by omega), fun _ => ?_⟩
      refine c_leastBehind q2 q3 q4 (by omega) t1 ?_
      refine c_Row_set p122 (by omega) (by omega) ⟨⟨by omega, by omega⟩, ?_⟩
      have := ih (t - 1) (zU D2 123 t (sLe (s 0 1) (sDs (s 0)) t)) (by omega) (by omega) (by omega) (q1.trans (Fr.up (by omega) (by omega))) (q2.scr (Fr.up (by omega) (by omega))) (fun i j a b c d => by rw [zU_o (by decide)]; exact q3 i j a b c d) (fun u u0 u1 => by
        by_cases e : u = t
        · rw [e, zU_s]
        · rw [zU_k e]; exact q4 u (by omega) u1)
      rw [show t - 1 = t + -1 by omega] at this
      exact this
  refine e_X5_fillLeast ?_
  simp only [tX5_fillLeast_0, w_ic, w_lc, w_lds, w_ild, w_lld, w_ald, w_ist, w_lst, w_ast, w_iinc, w_iadd, w_isub, w_imul, w_idiv, w_irem, w_iand, w_ior, w_ixor, w_ishl, w_ishr, w_iushr, w_ineg, w_ladd, w_lsub, w_lmul, w_ldiv, w_lrem, w_lcmp, w_i2l, w_l2i, w_dup, w_pop, w_dup2, w_ieq, w_zeq, w_ine, w_zne, w_ilt, w_zlt, w_ige, w_zge, w_igt, w_zgt, w_ile, w_zle, w_cut, w_tsw, zsw, w_iret, w_zret, w_lret, w_vret, w_nret, w_getI, w_getJ, w_getR, w_putI, w_putZ, w_putJ, w_iald, w_zald, w_iast, w_zast, w_alen, w_sI, w_sJ, w_sV, w_vI, w_vJ, w_vV, w_tI, w_mmax, w_mmin, w_mabs, w_lmax, w_acopy, gL, sL, kl_i, kl_l, kl_r, kl_s, kl_m, qI_i, qJ_l, qA_r, qA_s, pI_i, pJ_l, pA_r, pS_s, pM_m, pV_v, c1_i, c1_r, c1_s, c1_m, cS_0, cS_i, cS_l, cS_r, cS_s, cS_m, pN, z_rc_r, zE1, zE2, zE3, true_and, and_true, Nat.zero_add, Nat.reduceAdd, Nat.reduceLeDiff, true_or, or_true, q0, qp4, qp5, qp8, qp9, qf0, qz0, qf1, qz1, qf2, qz2, qf3, qz3, qf6, qz6, qf7, qz7, qf10, qz10, qf11, qz11, qf12, qz12, qf13, qz13, qf14, qz14, k1o, k1m, k1f0, k1z0, k1f1, k1z1, k1f2, k1z2, k1f3, k1z3, k1f4, k1z4, k1f5, k1z5, k1f6, k1z6, k1f7, k1z7, k1r0, k1r1, k1r2, k1r3, k1r4, k1r5, k1r6, k1w, k109, k109a, k109b, k109c, k109d, k109e, k109f, k109g, kr110, kr112, kr114, kr116, kr118, kr120, kr122]
  refine c_gsize bk1 hC.1.1 ?_
  rw [h3]
  refine ⟨⟨by omega, by omega⟩, ?_⟩
  refine c_Row_set p122 (by omega) (by omega) ⟨⟨by omega, by omega⟩, ?_⟩
  refine loop _ _ _ rfl (by omega) (by omega) (Fr.up (by omega) (by omega)) (hC.scr (Fr.up (by omega) (by omega))) (fun i j a b c d => by rw [zU_o (by decide)]; exact hH i j a b c d) (fun u u0 u1 => ?_)
  have e : u = 2 ^ (s 0 1).toNat - 1 := by omega
  rw [e, zU_s]
  unfold sLe
  rw [h4, show (s 0 1 - s 0 1).toNat = 0 by omega]
  rfl
theorem c_firstHome {D s : Mem} {c t : Int} {P : Int → Mem → Prop} (hC : CS D s) (hH : zHm D (s 0)) (hL : zLs D (s 0) (-1)) (c0 : 0 ≤ c) (c1 : c < s 0 1) (t0 : 0 ≤ t) (t1 : t < 2 ^ (s 0 1).toNat) (hP : P (sFh (s 0 1) (sDs (s 0)) c t) D) : zC miX5_firstHome [zr 0, zi c, zi t] D P := by
  have w := hC.1.1.2.2.1
  have n1 := w.n1
  have i64 : ((64 : Nat) : Int) = 64 := rfl
  obtain ⟨h1, h2, h3, h4⟩ := p2_6 n1.1 n1.2
  have hLt : zLs D (s 0) t := fun u u0 u1 => hL u (by omega) u1
  unfold sFh at hP
  have loop : ∀ (r : Nat) (j : Int), (s 0 1 - j).toNat = r → 0 ≤ j → j ≤ s 0 1 → (∀ u, 0 ≤ u → u < j → ¬ (zbt t u = 0 ∧ sWy (s 0 1) (sDs (s 0)) c u t = sLe (s 0 1) (sDs (s 0)) t)) → zW miX5_firstHome P 2 [zr 0, zi c, zi t, zi j] D := by
    intro r
    induction r with
    | zero =>
      intro j hr j0 j1 hu
      refine sX5_firstHome_2 _ _ _ _ _ ?_
      simp only [tX5_firstHome_2, w_ic, w_lc, w_lds, w_ild, w_lld, w_ald, w_ist, w_lst, w_ast, w_iinc, w_iadd, w_isub, w_imul, w_idiv, w_irem, w_iand, w_ior, w_ixor, w_ishl, w_ishr, w_iushr, w_ineg, w_ladd, w_lsub, w_lmul, w_ldiv, w_lrem, w_lcmp, w_i2l, w_l2i, w_dup, w_pop, w_dup2, w_ieq, w_zeq, w_ine, w_zne, w_ilt, w_zlt, w_ige, w_zge, w_igt, w_zgt, w_ile, w_zle, w_cut, w_tsw, zsw, w_iret, w_zret, w_lret, w_vret, w_nret, w_getI, w_getJ, w_getR, w_putI, w_putZ, w_putJ, w_iald, w_zald, w_iast, w_zast, w_alen, w_sI, w_sJ, w_sV, w_vI, w_vJ, w_vV, w_tI, w_mmax, w_mmin, w_mabs, w_lmax, w_acopy, gL, sL, kl_i, kl_l, kl_r, kl_s, kl_m, qI_i, qJ_l, qA_r, qA_s, pI_i, pJ_l, pA_r, pS_s, pM_m, pV_v, c1_i, c1_r, c1_s, c1_m, cS_0, cS_i, cS_l, cS_r, cS_s, cS_m, pN, z_rc_r, zE1, zE2, zE3, true_and, and_true, Nat.zero_add, Nat.reduceAdd, Nat.reduceLeDiff, true_or, or_true, q0, qp4, qp5, qp8, qp9, qf0, qz0, qf1, qz1, qf2, qz2, qf3, qz3, qf6, qz6, qf7, qz7, qf10, qz10, qf11, qz11, qf12, qz12, qf13, qz13, qf14, qz14, k1o, k1m, k1f0, k1z0, k1f1, k1z1, k1f2, k1z2, k1f3, k1z3, k1f4, k1z4, k1f5, k1z5, k1f6, k1z6, k1f7, k1z7, k1r0, k1r1, k1r2, k1r3, k1r4, k1r5, k1r6, k1w, k109, k109a, k109b, k109c, k109d, k109e, k109f, k109g, kr110, kr112, kr114, kr116, kr118, kr120, kr122]
      rw [zFst_no fun u u0 u1 => hu u u0 (by omega)] at hP
      exact c_gsize bk1 hC.1.1 ⟨fun _ => hP, fun q => absurd (by omega) q⟩
    | succ r ih =>
      intro j hr j0 j1 hu
      have go : ¬ (zbt t j = 0 ∧ sWy (s 0 1) (sDs (s 0)) c j t = sLe (s 0 1) (sDs (s 0)) t) → zR (j + 1) ∧ zW miX5_firstHome P 2 [zr 0, zi c, zi t, zi (j + 1)] D := fun q => ⟨⟨by omega, by omega⟩, ih (j + 1) (by omega) (by omega) (by omega) fun u u0 u1 => by
        by_cases e : u = j
        · rw [e]; exact q
        · exact hu u u0 (by omega)⟩
      refine sX5_firstHome_2 _ _ _ _ _ ?_
      simp only [tX5_firstHome_2, w_ic, w_lc, w_lds, w_ild, w_lld, w_ald, w_ist, w_lst, w_ast, w_iinc, w_iadd, w_isub, w_imul, w_idiv, w_irem, w_iand, w_ior, w_ixor, w_ishl, w_ishr, w_iushr, w_ineg, w_ladd, w_lsub, w_lmul, w_ldiv, w_lrem, w_lcmp, w_i2l, w_l2i, w_dup, w_pop, w_dup2, w_ieq, w_zeq, w_ine, w_zne, w_ilt, w_zlt, w_ige, w_zge, w_igt, w_zgt, w_ile, w_zle, w_cut, w_tsw, zsw, w_iret, w_zret, w_lret, w_vret, w_nret, w_getI, w_getJ, w_getR, w_putI, w_putZ, w_putJ, w_iald, w_zald, w_iast, w_zast, w_alen, w_sI, w_sJ, w_sV, w_vI, w_vJ, w_vV, w_tI, w_mmax, w_mmin, w_mabs, w_lmax, w_acopy, gL, sL, kl_i, kl_l, kl_r, kl_s, kl_m, qI_i, qJ_l, qA_r, qA_s, pI_i, pJ_l, pA_r, pS_s, pM_m, pV_v, c1_i, c1_r, c1_s, c1_m, cS_0, cS_i, cS_l, cS_r, cS_s, cS_m, pN, z_rc_r, zE1, zE2, zE3, true_and, and_true, Nat.zero_add, Nat.reduceAdd, Nat.reduceLeDiff, true_or, or_true, q0, qp4, qp5, qp8, qp9, qf0, qz0, qf1, qz1, qf2, qz2, qf3, qz3, qf6, qz6, qf7, qz7, qf10, qz10, qf11, qz11, qf12, qz12, qf13, qz13, qf14, qz14, k1o, k1m, k1f0, k1z0, k1f1, k1z1, k1f2, k1z2, k1f3, k1z3, k1f4, k1z4, k1f5, k1z5, k1f6, k1z6, k1f7, k1z7, k1r0, k1r1, k1r2, k1r3, k1r4, k1r5, k1r6, k1w, k109, k109a, k109b, k109c, k109d, k109e, k109f, k109g, kr110, kr112, kr114, kr116, kr118, kr120, kr122]
      rw [zbt_e t0 (by omega) j0 (by omega)]
      refine c_gsize bk1 hC.1.1 ⟨fun q => absurd q (by omega), fun _ => ⟨fun q => go fun w => q w.1, fun q => ?_⟩⟩
      have hb := Decidable.not_not.mp q
      refine c_wayThrough hC hH hLt c0 c1 j0 (by omega) t0 t1 hb ?_
      refine c_Row_get p122 (by omega) (by omega) ?_
      rw [hL t (by omega) t1]
      refine ⟨fun q2 => go fun w => q2 w.2, fun q2 => ?_⟩
      rw [zFst_of (p := fun j => zbt t j = 0 ∧ sWy (s 0 1) (sDs (s 0)) c j t = sLe (s 0 1) (sDs (s 0)) t) j0 ⟨hb, Decidable.not_not.mp q2⟩ hu (by omega)] at hP
      exact hP
  refine e_X5_firstHome ?_
  simp only [tX5_firstHome_0, w_ic, w_lc, w_lds, w_ild, w_lld, w_ald, w_ist, w_lst, w_ast, w_iinc, w_iadd, w_isub, w_imul, w_idiv, w_irem, w_iand, w_ior, w_ixor, w_ishl, w_ishr, w_iushr, w_ineg, w_ladd, w_lsub, w_lmul, w_ldiv, w_lrem, w_lcmp, w_i2l, w_l2i, w_dup, w_pop, w_dup2, w_ieq, w_zeq, w_ine, w_zne, w_ilt, w_zlt, w_ige, w_zge, w_igt, w_zgt, w_ile, w_zle, w_cut, w_tsw, zsw, w_iret, w_zret, w_lret, w_vret, w_nret, w_getI, w_getJ, w_getR, w_putI, w_putZ, w_putJ, w_iald, w_zald, w_iast, w_zast, w_alen, w_sI, w_sJ, w_sV, w_vI, w_vJ, w_vV, w_tI, w_mmax, w_mmin, w_mabs, w_lmax, w_acopy, gL, sL, kl_i, kl_l, kl_r, kl_s, kl_m, qI_i, qJ_l, qA_r, qA_s, pI_i, pJ_l, pA_r, pS_s, pM_m, pV_v, c1_i, c1_r, c1_s, c1_m, cS_0, cS_i, cS_l, cS_r, cS_s, cS_m, pN, z_rc_r, zE1, zE2, zE3, true_and, and_true, Nat.zero_add, Nat.reduceAdd, Nat.reduceLeDiff, true_or, or_true, q0, qp4, qp5, qp8, qp9, qf0, qz0, qf1, qz1, qf2, qz2, qf3, qz3, qf6, qz6, qf7, qz7, qf10, qz10, qf11, qz11, qf12, qz12, qf13, qz13, qf14, qz14, k1o, k1m, k1f0, k1z0, k1f1, k1z1, k1f2, k1z2, k1f3, k1z3, k1f4, k1z4, k1f5, k1z5, k1f6, k1z6, k1f7, k1z7, k1r0, k1r1, k1r2, k1r3, k1r4, k1r5, k1r6, k1w, k109, k109a, k109b, k109c, k109d, k109e, k109f, k109g, kr110, kr112, kr114, kr116, kr118, kr120, kr122]
  exact loop _ 0 rfl (by omega) n1.1 (fun u u0 u1 => by omega)
/-- when there is a way at all, each who comes finds a home -/
theorem zMn_hit {f : Int → Int} : ∀ n : Nat, zMn n f ≠ -1 → ∃ j : Int, 0 ≤ j ∧ j < n ∧ f j = zMn n f
  | 0, h => absurd rfl h
  | n + 1, h => by
    have e : zMn (n + 1) f = (if f n = -1 then zMn n f else if zMn n f = -1 then f n else if f n < zMn n f then f n else zMn n f) := rfl
    have up : zMn (n + 1) f = zMn n f → ∃ j : Int, 0 ≤ j ∧ j < ((n + 1 : Nat) : Int) ∧ f j = zMn (n + 1) f := by
      intro q
      rw [q] at h ⊢
      obtain ⟨j, j0, j1, j2⟩ := zMn_hit n h
      exact ⟨j, j0, by omega, j2⟩
    have me : zMn (n + 1) f = f n → ∃ j : Int, 0 ≤ j ∧ j < ((n + 1 : Nat) : Int) ∧ f j = zMn (n + 1) f := fun q => ⟨n, by omega, by omega, q.symm⟩
    by_cases h1 : f n = -1
    · rw [if_pos h1] at e; exact up e
    · rw [if_neg h1] at e
      by_cases h2 : zMn n f = -1
      · rw [if_pos h2] at e; exact me e
      · rw [if_neg h2] at e
        by_cases h3 : f n < zMn n f
        · rw [if_pos h3] at e; exact me e
        · rw [if_neg h3] at e; exact up e
theorem sLe_s {n : Int} {d : Int → Int → Int} {t : Int} (n0 : 0 ≤ n) (n1 : n ≤ 6) (t0 : 0 ≤ t) (t1 : t + 1 < 2 ^ n.toNat) : sLe n d t = zMn n.toNat (fun j => if zbt t j = 1 then -1 else sWy n d (zpc t) j t) := by
  have hz3 := (t_pcb t0 (by omega) n0 n1).2.2 t1
  unfold sLe
  obtain ⟨r, hr⟩ : ∃ r : Nat, (n - zpc t).toNat = r + 1 := ⟨(n - zpc t).toNat - 1, by omega⟩
  rw [hr]
  refine zMn_eq _ fun m m0 m1 => ?_
  rcases zbt_1 (x := t) (k := m) with q | q
  · rw [if_neg (by omega), if_neg (by omega)]
    obtain ⟨-, g2, -, g4⟩ := t_ad t0 (by omega) n0 n1 m0 (by omega) q
    unfold sWy sLe
    rw [g2, show n - (r + 1 : Int) = zpc t by omega, show (n - (zpc t + 1)).toNat = r by omega]
  · rw [if_pos q, if_pos q]
theorem t_full : ∀ n : Nat, n < 7 → ∀ t : Nat, t < 64 → (t < 2 ^ n ∧ zpc t < n → t + 1 < 2 ^ n) := by decide +kernel
/-- step by step: so many homes taken, a way left, a home found -/
theorem sTk_b {n : Int} {d : Int → Int → Int} (n0 : 0 ≤ n) (n1 : n ≤ 6) (h0 : sLe n d 0 ≠ -1) : ∀ c : Nat, (c : Int) ≤ n → (0 ≤ sTk n d c ∧ sTk n d c < 2 ^ n.toNat) ∧ zpc (sTk n d c) = c ∧ sLe n d (sTk n d c) ≠ -1 ∧ ((c : Int) < n → 0 ≤ sFh n d c (sTk n d c) ∧ sFh n d c (sTk n d c) < n ∧ zbt (sTk n d c) (sFh n d c (sTk n d c)) = 0) := by
  obtain ⟨h1, h2, h3, h4⟩ := p2_6 n0 n1
  have find : ∀ (c : Nat) (t : Int), (c : Int) < n → 0 ≤ t → t < 2 ^ n.toNat → zpc t = c → sLe n d t ≠ -1 → 0 ≤ sFh n d c t ∧ sFh n d c t < n ∧ zbt t (sFh n d c t) = 0 ∧ sLe n d (t + 2 ^ (sFh n d c t).toNat) ≠ -1 := by
    intro c t hc t0 t1 hz hl
    have tf : t + 1 < 2 ^ n.toNat := by
      obtain ⟨k, rfl⟩ := Int.eq_ofNat_of_zero_le t0
      obtain ⟨m, rfl⟩ := Int.eq_ofNat_of_zero_le n0
      rw [Int.toNat_natCast] at t1 h2 ⊢
      have e : ((2 : Int) ^ m) = ((2 ^ m : Nat) : Int) := by simp
      have := t_full m (by omega) k (by omega) ⟨by omega, by omega⟩
      omega
    rw [sLe_s n0 n1 t0 tf] at hl
    obtain ⟨j, j0, j1, j2⟩ := zMn_hit _ hl
    rw [← sLe_s n0 n1 t0 tf] at j2 hl
    have hb : zbt t j = 0 := by
      rcases zbt_1 (x := t) (k := j) with q | q
      · exact q
      · rw [if_pos q] at j2
        exact absurd j2.symm hl
    rw [if_neg (by omega), hz] at j2
    unfold sFh
    rcases zFst_spec (p := fun j => zbt t j = 0 ∧ sWy n d c j t = sLe n d t) n.toNat with ⟨g1, g2⟩ | ⟨g1, g2, g3, g4⟩
    · exact absurd ⟨hb, j2⟩ (g2 j j0 j1)
    · generalize zFst (fun j => zbt t j = 0 ∧ sWy n d c j t = sLe n d t) n.toNat = z at g1 g2 g3 g4 ⊢
      refine ⟨g1, by omega, g3.1, fun w => ?_⟩
      have := g3.2
      unfold sWy zJn at this
      rw [if_pos (Or.inr w)] at this
      exact hl this.symm
  intro c
  induction c with
  | zero =>
    intro _
    refine ⟨⟨Int.le_refl _, by show (0 : Int) < _; omega⟩, rfl, h0, fun hc => ?_⟩
    have := find 0 0 hc (by decide) (by omega) rfl h0
    exact ⟨this.1, this.2.1, this.2.2.1⟩
  | succ c ih =>
    intro hc
    obtain ⟨⟨a1, a2⟩, a3, a4, a5⟩ := ih (by omega)
    obtain ⟨b1, b2, b3, b4⟩ := find c _ (by omega) a1 a2 a3 a4
    obtain ⟨-, e2, e3, e4⟩ := t_ad a1 a2 n0 n1 b1 b2 b3
    have es : sTk n d (c + 1) = sTk n d c + 2 ^ (sFh n d c (sTk n d c)).toNat := rfl
    have ez : zpc (sTk n d (c + 1)) = ((c + 1 : Nat) : Int) := by rw [es, e2, a3]; omega
    refine ⟨⟨by omega, by omega⟩, ez, by rw [es]; exact b4, fun hc2 => ?_⟩
    have := find (c + 1) (sTk n d (c + 1)) hc2 (by omega) (by omega) ez (by rw [es]; exact b4)
    exact ⟨this.1, this.2.1, this.2.2.1⟩
noncomputable def r_doors (s : Mem) (i : Int) : Int × Mem := cIf (i = -1 ∨ (0 ≤ i ∧ i < s 0 1)) (cIf (sLe (s 0 1) (sDs (s 0)) 0 = -1) (-6, s) (cIf (i = -1) (sLe (s 0 1) (sDs (s 0)) 0, s) (sFh (s 0 1) (sDs (s 0)) i (sTk (s 0 1) (sDs (s 0)) i.toNat), s))) (-10, sRf s 3)
theorem c_homeChosenBy {D s : Mem} {i : Int} {P : Int → Mem → Prop} (hC : CS D s) (hH : zHm D (s 0)) (hL : zLs D (s 0) (-1)) (h0 : sLe (s 0 1) (sDs (s 0)) 0 ≠ -1) (i0 : 0 ≤ i) (i1 : i < s 0 1) (hP : P (sFh (s 0 1) (sDs (s 0)) i (sTk (s 0 1) (sDs (s 0)) i.toNat)) D) : zC miX5_homeChosenBy [zr 0, zi i] D P := by
  have w := hC.1.1.2.2.1
  have n1 := w.n1
  have hb := sTk_b n1.1 n1.2 h0
  have loop : ∀ (r : Nat) (c : Nat) (v : Int), (i.toNat + 1 - c) = r → c ≤ i.toNat + 1 → (c = i.toNat + 1 → v = sFh (s 0 1) (sDs (s 0)) i (sTk (s 0 1) (sDs (s 0)) i.toNat)) → zW miX5_homeChosenBy P 7 [zr 0, zi i, zi (sTk (s 0 1) (sDs (s 0)) c), zi v, zi c] D := by
    intro r
    induction r with
    | zero =>
      intro c v hr hc hv
      refine sX5_homeChosenBy_7 _ _ _ _ _ ?_
      simp only [tX5_homeChosenBy_7, w_ic, w_lc, w_lds, w_ild, w_lld, w_ald, w_ist, w_lst, w_ast, w_iinc, w_iadd, w_isub, w_imul, w_idiv, w_irem, w_iand, w_ior, w_ixor, w_ishl, w_ishr, w_iushr, w_ineg, w_ladd, w_lsub, w_lmul, w_ldiv, w_lrem, w_lcmp, w_i2l, w_l2i, w_dup, w_pop, w_dup2, w_ieq, w_zeq, w_ine, w_zne, w_ilt, w_zlt, w_ige, w_zge, w_igt, w_zgt, w_ile, w_zle, w_cut, w_tsw, zsw, w_iret, w_zret, w_lret, w_vret, w_nret, w_getI, w_getJ, w_getR, w_putI, w_putZ, w_putJ, w_iald, w_zald, w_iast, w_zast, w_alen, w_sI, w_sJ, w_sV, w_vI, w_vJ, w_vV, w_tI, w_mmax, w_mmin, w_mabs, w_lmax, w_acopy, gL, sL, kl_i, kl_l, kl_r, kl_s, kl_m, qI_i, qJ_l, qA_r, qA_s, pI_i, pJ_l, pA_r, pS_s, pM_m, pV_v, c1_i, c1_r, c1_s, c1_m, cS_0, cS_i, cS_l, cS_r, cS_s, cS_m, pN, z_rc_r, zE1, zE2, zE3, true_and, and_true, Nat.zero_add, Nat.reduceAdd, Nat.reduceLeDiff, true_or, or_true, q0, qp4, qp5, qp8, qp9, qf0, qz0, qf1, qz1, qf2, qz2, qf3, qz3, qf6, qz6, qf7, qz7, qf10, qz10, qf11, qz11, qf12, qz12, qf13, qz13, qf14, qz14, k1o, k1m, k1f0, k1z0, k1f1, k1z1, k1f2, k1z2, k1f3, k1z3, k1f4, k1z4, k1f5, k1z5, k1f6, k1z6, k1f7, k1z7, k1r0, k1r1, k1r2, k1r3, k1r4, k1r5, k1r6, k1w, k109, k109a, k109b, k109c, k109d, k109e, k109f, k109g, kr110, kr112, kr114, kr116, kr118, kr120, kr122]
      rw [hv (by omega)]
      exact ⟨fun _ => hP, fun q => absurd (by omega) q⟩
    | succ r ih =>
      intro c v hr hc hv
      obtain ⟨⟨a1, a2⟩, a3, a4, a5⟩ := hb c (by omega)
      obtain ⟨b1, b2, b3⟩ := a5 (by omega)
      obtain ⟨e1, e2, e3, e4⟩ := t_ad a1 a2 n1.1 n1.2 b1 b2 b3
      refine sX5_homeChosenBy_7 _ _ _ _ _ ?_
      simp only [tX5_homeChosenBy_7, w_ic, w_lc, w_lds, w_ild, w_lld, w_ald, w_ist, w_lst, w_ast, w_iinc, w_iadd, w_isub, w_imul, w_idiv, w_irem, w_iand, w_ior, w_ixor, w_ishl, w_ishr, w_iushr, w_ineg, w_ladd, w_lsub, w_lmul, w_ldiv, w_lrem, w_lcmp, w_i2l, w_l2i, w_dup, w_pop, w_dup2, w_ieq, w_zeq, w_ine, w_zne, w_ilt, w_zlt, w_ige, w_zge, w_igt, w_zgt, w_ile, w_zle, w_cut, w_tsw, zsw, w_iret, w_zret, w_lret, w_vret, w_nret, w_getI, w_getJ, w_getR, w_putI, w_putZ, w_putJ, w_iald, w_zald, w_iast, w_zast, w_alen, w_sI, w_sJ, w_sV, w_vI, w_vJ, w_vV, w_tI, w_mmax, w_mmin, w_mabs, w_lmax, w_acopy, gL, sL, kl_i, kl_l, kl_r, kl_s, kl_m, qI_i, qJ_l, qA_r, qA_s, pI_i, pJ_l, pA_r, pS_s, pM_m, pV_v, c1_i, c1_r, c1_s, c1_m, cS_0, cS_i, cS_l, cS_r, cS_s, cS_m, pN, z_rc_r, zE1, zE2, zE3, true_and, and_true, Nat.zero_add, Nat.reduceAdd, Nat.reduceLeDiff, true_or, or_true, q0, qp4, qp5, qp8, qp9, qf0, qz0, qf1, qz1, qf2, qz2, qf3, qz3, qf6, qz6, qf7, qz7, qf10, qz10, qf11, qz11, qf12, qz12, qf13, qz13, qf14, qz14, k1o, k1m, k1f0, k1z0, k1f1, k1z1, k1f2, k1z2, k1f3, k1z3, k1f4, k1z4, k1f5, k1z5, k1f6, k1z6, k1f7, k1z7, k1r0, k1r1, k1r2, k1r3, k1r4, k1r5, k1r6, k1w, k109, k109a, k109b, k109c, k109d, k109e, k109f, k109g, kr110, kr112, kr114, kr116, kr118, kr120, kr122]
      refine ⟨fun q => absurd q (by omega), fun _ => ⟨fun q => absurd q (by omega), fun _ => ?_⟩⟩
      refine c_firstHome hC hH hL (by omega) (by omega) a1 a2 ?_
      refine ⟨fun q => ?_, fun q => absurd (by omega) q⟩
      rw [e1]
      refine ⟨⟨by omega, by omega⟩, ?_⟩
      have := ih (c + 1) (sFh (s 0 1) (sDs (s 0)) c (sTk (s 0 1) (sDs (s 0)) c)) (by omega) (by omega) (fun e => by
        rw [show c = i.toNat by omega, show ((i.toNat : Nat) : Int) = i by omega])
      exact this
  refine e_X5_homeChosenBy ?_
  simp only [tX5_homeChosenBy_0, w_ic, w_lc, w_lds, w_ild, w_lld, w_ald, w_ist, w_lst, w_ast, w_iinc, w_iadd, w_isub, w_imul, w_idiv, w_irem, w_iand, w_ior, w_ixor, w_ishl, w_ishr, w_iushr, w_ineg, w_ladd, w_lsub, w_lmul, w_ldiv, w_lrem, w_lcmp, w_i2l, w_l2i, w_dup, w_pop, w_dup2, w_ieq, w_zeq, w_ine, w_zne, w_ilt, w_zlt, w_ige, w_zge, w_igt, w_zgt, w_ile, w_zle, w_cut, w_tsw, zsw, w_iret, w_zret, w_lret, w_vret, w_nret, w_getI, w_getJ, w_getR, w_putI, w_putZ, w_putJ, w_iald, w_zald, w_iast, w_zast, w_alen, w_sI, w_sJ, w_sV, w_vI, w_vJ, w_vV, w_tI, w_mmax, w_mmin, w_mabs, w_lmax, w_acopy, gL, sL, kl_i, kl_l, kl_r, kl_s, kl_m, qI_i, qJ_l, qA_r, qA_s, pI_i, pJ_l, pA_r, pS_s, pM_m, pV_v, c1_i, c1_r, c1_s, c1_m, cS_0, cS_i, cS_l, cS_r, cS_s, cS_m, pN, z_rc_r, zE1, zE2, zE3, true_and, and_true, Nat.zero_add, Nat.reduceAdd, Nat.reduceLeDiff, true_or, or_true, q0, qp4, qp5, qp8, qp9, qf0, qz0, qf1, qz1, qf2, qz2, qf3, qz3, qf6, qz6, qf7, qz7, qf10, qz10, qf11, qz11, qf12, qz12, qf13, qz13, qf14, qz14, k1o, k1m, k1f0, k1z0, k1f1, k1z1, k1f2, k1z2, k1f3, k1z3, k1f4, k1z4, k1f5, k1z5, k1f6, k1z6, k1f7, k1z7, k1r0, k1r1, k1r2, k1r3, k1r4, k1r5, k1r6, k1w, k109, k109a, k109b, k109c, k109d, k109e, k109f, k109g, kr110, kr112, kr114, kr116, kr118, kr120, kr122]
  exact loop _ 0 (-1) rfl (by omega) (fun e => by omega)
theorem v_doors {n i : Int} {s : Mem} (hW : WS n s) (hn : n < 1000000) : cOK miX5_doors [zr 0, zi i] s (r_doors s i) := by
  intro D P hC hP
  have w := hC.1.1.2.2.1
  have n1 := w.n1
  have hp2 := p2_6 n1.1 n1.2
  unfold r_doors at hP
  have main : (i = -1 ∨ (0 ≤ i ∧ i < s 0 1)) → zC miX5_fillToHomes [zr 0] D (fun _ D' => zC miX5_fillLeast [zr 0] D' (fun _ D' => zC miX2_get [zr 122, zi 0] D' (fun x D' => (¬ x = -1 → (¬ i = -1 → zC miX5_homeChosenBy [zr 0, zi i] D' P) ∧ (¬ ¬ i = -1 → zC miX2_get [zr 122, zi 0] D' P)) ∧ (¬ ¬ x = -1 → P (-6) D')))) := by
    intro hi
    rw [cIf_t hi] at hP
    refine c_fillToHomes hC fun D1 d1 d2 d3 => ?_
    refine c_fillLeast d2 d3 fun D2 e1 e2 e3 e4 => ?_
    refine c_Row_get p122 (by decide) (by decide) ?_
    rw [e4 0 (by decide) (by omega)]
    refine ⟨fun q => ?_, fun q => ?_⟩
    · rw [cIf_f q] at hP
      refine ⟨fun q2 => ?_, fun q2 => ?_⟩
      · rw [cIf_f q2] at hP
        exact c_homeChosenBy e2 e3 e4 q (by omega) (by omega) (hP D2 (d1.trans e1) e2)
      · rw [cIf_t (Decidable.not_not.mp q2)] at hP
        refine c_Row_get p122 (by decide) (by decide) ?_
        rw [e4 0 (by decide) (by omega)]
        exact hP D2 (d1.trans e1) e2
    · rw [cIf_t (Decidable.not_not.mp q)] at hP
      exact hP D2 (d1.trans e1) e2
  refine e_X5_doors ?_
  simp only [tX5_doors_0, w_ic, w_lc, w_lds, w_ild, w_lld, w_ald, w_ist, w_lst, w_ast, w_iinc, w_iadd, w_isub, w_imul, w_idiv, w_irem, w_iand, w_ior, w_ixor, w_ishl, w_ishr, w_iushr, w_ineg, w_ladd, w_lsub, w_lmul, w_ldiv, w_lrem, w_lcmp, w_i2l, w_l2i, w_dup, w_pop, w_dup2, w_ieq, w_zeq, w_ine, w_zne, w_ilt, w_zlt, w_ige, w_zge, w_igt, w_zgt, w_ile, w_zle, w_cut, w_tsw, zsw, w_iret, w_zret, w_lret, w_vret, w_nret, w_getI, w_getJ, w_getR, w_putI, w_putZ, w_putJ, w_iald, w_zald, w_iast, w_zast, w_alen, w_sI, w_sJ, w_sV, w_vI, w_vJ, w_vV, w_tI, w_mmax, w_mmin, w_mabs, w_lmax, w_acopy, gL, sL, kl_i, kl_l, kl_r, kl_s, kl_m, qI_i, qJ_l, qA_r, qA_s, pI_i, pJ_l, pA_r, pS_s, pM_m, pV_v, c1_i, c1_r, c1_s, c1_m, cS_0, cS_i, cS_l, cS_r, cS_s, cS_m, pN, z_rc_r, zE1, zE2, zE3, true_and, and_true, Nat.zero_add, Nat.reduceAdd, Nat.reduceLeDiff, true_or, or_true, q0, qp4, qp5, qp8, qp9, qf0, qz0, qf1, qz1, qf2, qz2, qf3, qz3, qf6, qz6, qf7, qz7, qf10, qz10, qf11, qz11, qf12, qz12, qf13, qz13, qf14, qz14, k1o, k1m, k1f0, k1z0, k1f1, k1z1, k1f2, k1z2, k1f3, k1z3, k1f4, k1z4, k1f5, k1z5, k1f6, k1z6, k1f7, k1z7, k1r0, k1r1, k1r2, k1r3, k1r4, k1r5, k1r6, k1w, k109, k109a, k109b, k109c, k109d, k109e, k109f, k109g, kr110, kr112, kr114, kr116, kr118, kr120, kr122]
  refine ⟨fun q => main (Or.inl q), fun q => ?_⟩
  refine c_Rows_has bk1.r1 (fun c0 c1 => ⟨fun _ => ?_, fun w => absurd (by decide) w⟩) (fun q2 => ⟨fun w => absurd rfl w, fun _ => ?_⟩)
  · rw [hC.1.1.2.1.1.2.1] at c1
    exact main (Or.inr ⟨c0, c1⟩)
  · rw [hC.1.1.2.1.1.2.1] at q2
    rw [cIf_f (by omega)] at hP
    exact c_badAs hC hW hn hP
