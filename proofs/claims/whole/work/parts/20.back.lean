/-! ===== 20: the class's Back: what it holds, in flat numbers ===== -/
def zBD (D : Mem) (b : Nat) : Prop := zRD D (b + 1) 6 2 ∧ zRD D (b + 4) 6 5 ∧ zRD D (b + 7) 4 2 ∧ zRD D (b + 10) 5 3 ∧ zRD D (b + 13) 6 4 ∧ zRD D (b + 16) 6 4 ∧ zRD D (b + 19) 8 19
def ZB (D : Mem) (b : Nat) (a : Int → Int) : Prop :=
  (D (b + 1) 3 = a 0 ∧ D (b + 4) 3 = a 1 ∧ D (b + 7) 3 = a 2 ∧ D b 8 = a 3 ∧ D (b + 10) 3 = a 54 ∧ D (b + 13) 3 = a 70 ∧ D (b + 16) 3 = a 95 ∧ D (b + 19) 3 = a 120) ∧
  (∀ k c, 0 ≤ k → k < a 0 → 0 ≤ c → c < 2 → D (b + 3) (k * 2 + c) = a (4 + 6 * c + k)) ∧
  (∀ i c, 0 ≤ i → i < a 1 → 0 ≤ c → c < 5 → D (b + 6) (i * 5 + c) = a (16 + 6 * c + i)) ∧
  (∀ k c, 0 ≤ k → k < a 2 → 0 ≤ c → c < 2 → D (b + 9) (k * 2 + c) = a (46 + 4 * c + k)) ∧
  (∀ s c, 0 ≤ s → s < a 54 → 0 ≤ c → c < 3 → D (b + 12) (s * 3 + c) = a (55 + 3 * s + c)) ∧
  (∀ n c, 0 ≤ n → n < a 70 → 0 ≤ c → c < 4 → D (b + 15) (n * 4 + c) = a (71 + 4 * n + c)) ∧
  (∀ n c, 0 ≤ n → n < a 95 → 0 ≤ c → c < 4 → D (b + 18) (n * 4 + c) = a (96 + 4 * n + c)) ∧
  (∀ u, 0 ≤ u → u < a 120 → D (b + 21) (u * 19) = a (121 + 19 * u) ∧ (∀ i, 0 ≤ i → i < a 1 → D (b + 21) (u * 19 + (1 + i)) = a (128 + 19 * u + i) ∧ D (b + 21) (u * 19 + (7 + i)) = a (134 + 19 * u + i)) ∧ (∀ k, 0 ≤ k → k < a 0 → D (b + 21) (u * 19 + (13 + k)) = a (122 + 19 * u + k)))
def BK (M : Int) (D : Mem) (b : Nat) (a : Int → Int) : Prop := zBD D b ∧ ZB D b a ∧ WA M a ∧ WY D b
theorem zBD.of {D D' : Mem} {b : Nat} (h : zBD D b) (e : ∀ o, b ≤ o → o < b + 22 → D' o = D o) : zBD D' b := by
  obtain ⟨h1, h2, h3, h4, h5, h6, h7⟩ := h
  exact ⟨h1.of_eq (e _ (by omega) (by omega)), h2.of_eq (e _ (by omega) (by omega)), h3.of_eq (e _ (by omega) (by omega)), h4.of_eq (e _ (by omega) (by omega)), h5.of_eq (e _ (by omega) (by omega)), h6.of_eq (e _ (by omega) (by omega)), h7.of_eq (e _ (by omega) (by omega))⟩
theorem ZB.of {D D' : Mem} {b : Nat} {a : Int → Int} (h : ZB D b a) (e : ∀ o, b ≤ o → o < b + 22 → D' o = D o) : ZB D' b a := by
  unfold ZB
  rw [e (b + 1) (by omega) (by omega), e (b + 4) (by omega) (by omega), e (b + 7) (by omega) (by omega), e b (by omega) (by omega), e (b + 10) (by omega) (by omega), e (b + 13) (by omega) (by omega), e (b + 16) (by omega) (by omega), e (b + 19) (by omega) (by omega), e (b + 3) (by omega) (by omega), e (b + 6) (by omega) (by omega), e (b + 9) (by omega) (by omega), e (b + 12) (by omega) (by omega), e (b + 15) (by omega) (by omega), e (b + 18) (by omega) (by omega), e (b + 21) (by omega) (by omega)]
  exact h
theorem WY.of {D D' : Mem} {b : Nat} (h : WY D b) (e : ∀ o, b + 22 ≤ o → o < b + 27 → D' o = D o) : WY D' b := by
  unfold WY
  rw [e (b + 22) (by omega) (by omega), e (b + 24) (by omega) (by omega)]
  exact h
theorem BK.fr {M : Int} {D D' : Mem} {b : Nat} {a : Int → Int} (h : BK M D b a) (hf : Fr (b + 22) (b + 27) D D') (hw : WY D' b) : BK M D' b a :=
  ⟨h.1.of (fun o _ h1 => hf o (Or.inl h1)), h.2.1.of (fun o _ h1 => hf o (Or.inl h1)), h.2.2.1, hw⟩
theorem BK.out {M : Int} {D D' : Mem} {b : Nat} {a : Int → Int} (h : BK M D b a) (e : ∀ o, b ≤ o → o < b + 27 → D' o = D o) : BK M D' b a :=
  ⟨h.1.of (fun o h0 h1 => e o h0 (by omega)), h.2.1.of (fun o h0 h1 => e o h0 (by omega)), h.2.2.1, h.2.2.2.of (fun o h0 h1 => e o (by omega) h1)⟩
theorem BK.mono {M M' : Int} {D : Mem} {b : Nat} {a : Int → Int} (h : BK M D b a) (hw : WA M' a) : BK M' D b a := ⟨h.1, h.2.1, hw, h.2.2.2⟩
-- reading
theorem c_lsize {M : Int} {b : Nat} {a : Int → Int} {D : Mem} {P : Int → Mem → Prop} (hb : zBk b) (h : BK M D b a) (hP : P (a 0) D) : zC miX3_size [zr (b + 1)] D P := c_Rows_size hb.r0 (by rw [h.2.1.1.1]; exact hP)
theorem c_gsize {M : Int} {b : Nat} {a : Int → Int} {D : Mem} {P : Int → Mem → Prop} (hb : zBk b) (h : BK M D b a) (hP : P (a 1) D) : zC miX3_size [zr (b + 4)] D P := c_Rows_size hb.r1 (by rw [h.2.1.1.2.1]; exact hP)
theorem c_wsize {M : Int} {b : Nat} {a : Int → Int} {D : Mem} {P : Int → Mem → Prop} (hb : zBk b) (h : BK M D b a) (hP : P (a 2) D) : zC miX3_size [zr (b + 7)] D P := c_Rows_size hb.r2 (by rw [h.2.1.1.2.2.1]; exact hP)
theorem c_lget {M : Int} {b : Nat} {a : Int → Int} {k c : Int} {D : Mem} {P : Int → Mem → Prop} (hb : zBk b) (h : BK M D b a) (k0 : 0 ≤ k) (k1 : k < a 0) (c0 : 0 ≤ c) (c1 : c < 2) (hP : P (a (4 + 6 * c + k)) D) : zC miX3_get [zr (b + 1), zi k, zi c] D P := by
  refine c_Rows_get hb.r0 h.1.1 k0 (by rw [h.2.1.1.1]; exact k1) c0 c1 ?_
  have := h.2.1.2.1 k c k0 k1 c0 c1
  rw [show ((2 : Nat) : Int) = 2 from rfl, this]
  exact hP
theorem c_gget {M : Int} {b : Nat} {a : Int → Int} {k c : Int} {D : Mem} {P : Int → Mem → Prop} (hb : zBk b) (h : BK M D b a) (k0 : 0 ≤ k) (k1 : k < a 1) (c0 : 0 ≤ c) (c1 : c < 5) (hP : P (a (16 + 6 * c + k)) D) : zC miX3_get [zr (b + 4), zi k, zi c] D P := by
  refine c_Rows_get hb.r1 h.1.2.1 k0 (by rw [h.2.1.1.2.1]; exact k1) c0 c1 ?_
  have := h.2.1.2.2.1 k c k0 k1 c0 c1
  rw [show ((5 : Nat) : Int) = 5 from rfl, this]
  exact hP
theorem c_wget {M : Int} {b : Nat} {a : Int → Int} {k c : Int} {D : Mem} {P : Int → Mem → Prop} (hb : zBk b) (h : BK M D b a) (k0 : 0 ≤ k) (k1 : k < a 2) (c0 : 0 ≤ c) (c1 : c < 2) (hP : P (a (46 + 4 * c + k)) D) : zC miX3_get [zr (b + 7), zi k, zi c] D P := by
  refine c_Rows_get hb.r2 h.1.2.2.1 k0 (by rw [h.2.1.1.2.2.1]; exact k1) c0 c1 ?_
  have := h.2.1.2.2.2.1 k c k0 k1 c0 c1
  rw [show ((2 : Nat) : Int) = 2 from rfl, this]
  exact hP
theorem c_goalOf {M : Int} {b : Nat} {a : Int → Int} {i : Int} {D : Mem} {P : Int → Mem → Prop} (hb : zBk b) (h : BK M D b a) (i0 : 0 ≤ i) (i1 : i < a 1) (hP : P (sGl a i) D) : zC miX0_goalOf [zr b, zi i] D P := by
  refine e_X0_goalOf ?_
  simp only [tX0_goalOf_0, w_ic, w_lc, w_lds, w_ild, w_lld, w_ald, w_ist, w_lst, w_ast, w_iinc, w_iadd, w_isub, w_imul, w_idiv, w_irem, w_iand, w_ior, w_ixor, w_ishl, w_ishr, w_iushr, w_ineg, w_ladd, w_lsub, w_lmul, w_ldiv, w_lrem, w_lcmp, w_i2l, w_l2i, w_dup, w_pop, w_dup2, w_ieq, w_zeq, w_ine, w_zne, w_ilt, w_zlt, w_ige, w_zge, w_igt, w_zgt, w_ile, w_zle, w_cut, w_tsw, zsw, w_iret, w_zret, w_lret, w_vret, w_nret, w_getI, w_getJ, w_getR, w_putI, w_putZ, w_putJ, w_iald, w_zald, w_iast, w_zast, w_alen, w_sI, w_sJ, w_sV, w_vI, w_vJ, w_vV, w_tI, w_mmax, w_mmin, w_mabs, w_lmax, w_acopy, gL, sL, kl_i, kl_l, kl_r, kl_s, kl_m, qI_i, qJ_l, qA_r, qA_s, pI_i, pJ_l, pA_r, pS_s, pM_m, pV_v, c1_i, c1_r, c1_s, c1_m, cS_0, cS_i, cS_l, cS_r, cS_s, cS_m, pN, z_rc_r, zE1, zE2, zE3, true_and, and_true, Nat.zero_add, Nat.reduceAdd, Nat.reduceLeDiff, true_or, or_true, hb.o, hb.fr1, hb.zf1, hb.r1.o]
  unfold sGl at hP
  refine c_gget hb h i0 i1 (by omega) (by omega) ?_
  rw [show 16 + 6 * 4 + i = 40 + i by omega]
  refine ⟨fun q => ?_, fun q => ?_⟩
  · rw [if_neg q] at hP
    refine c_gget hb h i0 i1 (by omega) (by omega) ?_
    rw [show 16 + 6 * 2 + i = 28 + i by omega]
    exact hP
  · rw [if_pos (Decidable.not_not.mp q)] at hP
    refine c_gget hb h i0 i1 (by omega) (by omega) ?_
    rw [show 16 + 6 * 1 + i = 22 + i by omega]
    exact hP
theorem zB_or16 {x : Int} {k j : Int} (hx : zM x) (hk : 0 ≤ k) (hk2 : k < 16) (hj : 0 ≤ j) : (zB (bO x (bL 1 k)) j ↔ zB x j ∨ j = k) ∧ zM (bO x (bL 1 k)) := by
  obtain ⟨h0, h1⟩ := hx
  refine ⟨(zB_or h0 (by omega) hk (by omega) hj).1, (zB_or h0 (by omega) hk (by omega) hj).2.1, ?_⟩
  obtain ⟨n, rfl⟩ := Int.eq_ofNat_of_zero_le h0
  obtain ⟨q, rfl⟩ := Int.eq_ofNat_of_zero_le hk
  have hq : 2 ^ q < 2 ^ 16 := Nat.pow_lt_pow_right (by decide) (by omega)
  have e1 : bL 1 (q : Int) = ((2 ^ q : Nat) : Int) := by
    have := bL_n (x := 1) (k := q) (by omega) (by omega)
    rw [Nat.one_mul] at this
    exact this
  rw [e1, bO_n (by omega) (by omega)]
  have hlt : n ||| 2 ^ q < 2 ^ 16 := Nat.or_lt_two_pow (by omega) hq
  omega
/-- the ways know the ladders as they are -/
def zOP (D : Mem) (b : Nat) (a : Int → Int) : Prop := ∀ c, 0 ≤ c → c < 16 → (zB (D (b + 22) 3) c ↔ sOp a c)
theorem c_layWays {M : Int} {b : Nat} {a : Int → Int} {D : Mem} {P : Int → Mem → Prop} (hb : zBk b) (h : BK M D b a) (hP : ∀ D', Fr (b + 22) (b + 27) D D' → BK M D' b a → zOP D' b a → P 0 D') : zC miX0_layWays [zr b] D P := by
  have n0 := h.2.2.1.n0
  have loop : ∀ (m : Nat) (k x : Int), (a 0 - k).toNat = m → 0 ≤ k → k ≤ a 0 → zM x → (∀ c, 0 ≤ c → c < 16 → (zB x c ↔ ∃ j, 0 ≤ j ∧ j < k ∧ a (4 + j) = c ∧ a (10 + j) = 1)) → zW miX0_layWays P 4 [zr b, zi x, zi k] D := by
    intro m
    induction m with
    | zero =>
      intro k x hm k0 k1 hx hz
      refine sX0_layWays_4 _ _ _ _ _ ?_
      simp only [tX0_layWays_4, w_ic, w_lc, w_lds, w_ild, w_lld, w_ald, w_ist, w_lst, w_ast, w_iinc, w_iadd, w_isub, w_imul, w_idiv, w_irem, w_iand, w_ior, w_ixor, w_ishl, w_ishr, w_iushr, w_ineg, w_ladd, w_lsub, w_lmul, w_ldiv, w_lrem, w_lcmp, w_i2l, w_l2i, w_dup, w_pop, w_dup2, w_ieq, w_zeq, w_ine, w_zne, w_ilt, w_zlt, w_ige, w_zge, w_igt, w_zgt, w_ile, w_zle, w_cut, w_tsw, zsw, w_iret, w_zret, w_lret, w_vret, w_nret, w_getI, w_getJ, w_getR, w_putI, w_putZ, w_putJ, w_iald, w_zald, w_iast, w_zast, w_alen, w_sI, w_sJ, w_sV, w_vI, w_vJ, w_vV, w_tI, w_mmax, w_mmin, w_mabs, w_lmax, w_acopy, gL, sL, kl_i, kl_l, kl_r, kl_s, kl_m, qI_i, qJ_l, qA_r, qA_s, pI_i, pJ_l, pA_r, pS_s, pM_m, pV_v, c1_i, c1_r, c1_s, c1_m, cS_0, cS_i, cS_l, cS_r, cS_s, cS_m, pN, z_rc_r, zE1, zE2, zE3, true_and, and_true, Nat.zero_add, Nat.reduceAdd, Nat.reduceLeDiff, true_or, or_true, hb.o, hb.fr0, hb.zf0, hb.r0.o, hb.fr7, hb.zf7, hb.wo]
      refine c_lsize hb h ⟨fun _ => ?_, fun q => absurd (by omega) q⟩
      refine c_lay hb h.2.2.2 hx fun D' h1 h2 h3 => ?_
      refine hP D' h1 (h.fr h1 h2) fun c c0 c1 => ?_
      rw [h3, hz c c0 c1]
      have e : k = a 0 := by omega
      rw [e]
      exact Iff.rfl
    | succ m ih =>
      intro k x hm k0 k1 hx hz
      refine sX0_layWays_4 _ _ _ _ _ ?_
      simp only [tX0_layWays_4, w_ic, w_lc, w_lds, w_ild, w_lld, w_ald, w_ist, w_lst, w_ast, w_iinc, w_iadd, w_isub, w_imul, w_idiv, w_irem, w_iand, w_ior, w_ixor, w_ishl, w_ishr, w_iushr, w_ineg, w_ladd, w_lsub, w_lmul, w_ldiv, w_lrem, w_lcmp, w_i2l, w_l2i, w_dup, w_pop, w_dup2, w_ieq, w_zeq, w_ine, w_zne, w_ilt, w_zlt, w_ige, w_zge, w_igt, w_zgt, w_ile, w_zle, w_cut, w_tsw, zsw, w_iret, w_zret, w_lret, w_vret, w_nret, w_getI, w_getJ, w_getR, w_putI, w_putZ, w_putJ, w_iald, w_zald, w_iast, w_zast, w_alen, w_sI, w_sJ, w_sV, w_vI, w_vJ, w_vV, w_tI, w_mmax, w_mmin, w_mabs, w_lmax, w_acopy, gL, sL, kl_i, kl_l, kl_r, kl_s, kl_m, qI_i, qJ_l, qA_r, qA_s, pI_i, pJ_l, pA_r, pS_s, pM_m, pV_v, c1_i, c1_r, c1_s, c1_m, cS_0, cS_i, cS_l, cS_r, cS_s, cS_m, pN, z_rc_r, zE1, zE2, zE3, true_and, and_true, Nat.zero_add, Nat.reduceAdd, Nat.reduceLeDiff, true_or, or_true, hb.o, hb.fr0, hb.zf0, hb.r0.o, hb.fr7, hb.zf7, hb.wo]
      refine c_lsize hb h ⟨fun q => absurd q (by omega), fun _ => ?_⟩
      have hk := h.2.2.1.2.1 k k0 (by omega)
      refine c_lget hb h k0 (by omega) (by omega) (by omega) ?_
      refine c_lget hb h k0 (by omega) (by omega) (by omega) ⟨⟨by omega, by omega⟩, ?_⟩
      rw [show 4 + 6 * 1 + k = 10 + k by omega, show 4 + 6 * 0 + k = 4 + k by omega]
      obtain ⟨⟨c0, c1⟩, hd⟩ := hk
      rcases hd with hd | hd
      · rw [hd, zB_or0 hx.1 (by have := hx.2; omega) c0 (by omega)]
        refine ih (k + 1) x (by omega) (by omega) (by omega) hx fun c e0 e1 => (hz c e0 e1).trans ⟨?_, ?_⟩
        · rintro ⟨j, j0, j1, j2, j3⟩
          exact ⟨j, j0, by omega, j2, j3⟩
        · rintro ⟨j, j0, j1, j2, j3⟩
          refine ⟨j, j0, ?_, j2, j3⟩
          by_cases e : j = k
          · rw [e] at j3; omega
          · omega
      · rw [hd]
        obtain ⟨-, g2⟩ := zB_or16 hx c0 (by omega) c0
        refine ih (k + 1) _ (by omega) (by omega) (by omega) g2 fun c e0 e1 => (zB_or16 hx c0 (by omega) e0).1.trans ⟨?_, ?_⟩
        · rintro (q | q)
          · obtain ⟨j, j0, j1, j2, j3⟩ := (hz c e0 e1).mp q
            exact ⟨j, j0, by omega, j2, j3⟩
          · exact ⟨k, k0, by omega, q.symm, hd⟩
        · rintro ⟨j, j0, j1, j2, j3⟩
          by_cases e : j = k
          · rw [e] at j2; exact Or.inr j2.symm
          · exact Or.inl ((hz c e0 e1).mpr ⟨j, j0, by omega, j2, j3⟩)
  refine e_X0_layWays ?_
  simp only [tX0_layWays_0, w_ic, w_lc, w_lds, w_ild, w_lld, w_ald, w_ist, w_lst, w_ast, w_iinc, w_iadd, w_isub, w_imul, w_idiv, w_irem, w_iand, w_ior, w_ixor, w_ishl, w_ishr, w_iushr, w_ineg, w_ladd, w_lsub, w_lmul, w_ldiv, w_lrem, w_lcmp, w_i2l, w_l2i, w_dup, w_pop, w_dup2, w_ieq, w_zeq, w_ine, w_zne, w_ilt, w_zlt, w_ige, w_zge, w_igt, w_zgt, w_ile, w_zle, w_cut, w_tsw, zsw, w_iret, w_zret, w_lret, w_vret, w_nret, w_getI, w_getJ, w_getR, w_putI, w_putZ, w_putJ, w_iald, w_zald, w_iast, w_zast, w_alen, w_sI, w_sJ, w_sV, w_vI, w_vJ, w_vV, w_tI, w_mmax, w_mmin, w_mabs, w_lmax, w_acopy, gL, sL, kl_i, kl_l, kl_r, kl_s, kl_m, qI_i, qJ_l, qA_r, qA_s, pI_i, pJ_l, pA_r, pS_s, pM_m, pV_v, c1_i, c1_r, c1_s, c1_m, cS_0, cS_i, cS_l, cS_r, cS_s, cS_m, pN, z_rc_r, zE1, zE2, zE3, true_and, and_true, Nat.zero_add, Nat.reduceAdd, Nat.reduceLeDiff, true_or, or_true]
  refine loop _ 0 0 rfl (by omega) (by omega) ⟨by omega, by omega⟩ fun c _ _ => ⟨fun q => absurd q (zB_0 c), ?_⟩
  rintro ⟨j, j0, j1, -⟩
  omega
/-- where a goer steps next, when the ways are laid -/
theorem c_gnext {M : Int} {b : Nat} {a : Int → Int} {c g : Int} {D : Mem} {P : Int → Mem → Prop} (hb : zBk b) (h : BK M D b a) (ho : zOP D b a) (hc : inC c) (hg : inC g) (hP : ∀ D', Fr (b + 22) (b + 27) D D' → BK M D' b a → zOP D' b a → P (sNx (sOp a) c g) D') : zC miX4_next [zr (b + 22), zi c, zi g] D P := by
  refine c_next hb h.2.2.2 hc hg fun D' h1 h2 h3 => ?_
  rw [sNx_congr ho hc]
  refine hP D' h1 (h.fr h1 h2) ?_
  unfold zOP
  rw [h3]
  exact ho
theorem c_gdist {M : Int} {b : Nat} {a : Int → Int} {c g : Int} {D : Mem} {P : Int → Mem → Prop} (hb : zBk b) (h : BK M D b a) (ho : zOP D b a) (hc : inC c) (hg : inC g) (hP : ∀ D', Fr (b + 22) (b + 27) D D' → BK M D' b a → zOP D' b a → P (sD (sOp a) g c) D') : zC miX4_between [zr (b + 22), zi c, zi g] D P := by
  refine c_between hb h.2.2.2 hc hg fun D' h1 h2 h3 => ?_
  rw [sD_congr ho]
  refine hP D' h1 (h.fr h1 h2) ?_
  unfold zOP
  rw [h3]
  exact ho
theorem c_nextOf {M : Int} {b : Nat} {a : Int → Int} {i : Int} {D : Mem} {P : Int → Mem → Prop} (hb : zBk b) (h : BK M D b a) (i0 : 0 ≤ i) (i1 : i < a 1) (hP : ∀ D', Fr (b + 22) (b + 27) D D' → BK M D' b a → P (sNa a i) D') : zC miX0_nextOf [zr b, zi i] D P := by
  refine e_X0_nextOf ?_
  simp only [tX0_nextOf_0, w_ic, w_lc, w_lds, w_ild, w_lld, w_ald, w_ist, w_lst, w_ast, w_iinc, w_iadd, w_isub, w_imul, w_idiv, w_irem, w_iand, w_ior, w_ixor, w_ishl, w_ishr, w_iushr, w_ineg, w_ladd, w_lsub, w_lmul, w_ldiv, w_lrem, w_lcmp, w_i2l, w_l2i, w_dup, w_pop, w_dup2, w_ieq, w_zeq, w_ine, w_zne, w_ilt, w_zlt, w_ige, w_zge, w_igt, w_zgt, w_ile, w_zle, w_cut, w_tsw, zsw, w_iret, w_zret, w_lret, w_vret, w_nret, w_getI, w_getJ, w_getR, w_putI, w_putZ, w_putJ, w_iald, w_zald, w_iast, w_zast, w_alen, w_sI, w_sJ, w_sV, w_vI, w_vJ, w_vV, w_tI, w_mmax, w_mmin, w_mabs, w_lmax, w_acopy, gL, sL, kl_i, kl_l, kl_r, kl_s, kl_m, qI_i, qJ_l, qA_r, qA_s, pI_i, pJ_l, pA_r, pS_s, pM_m, pV_v, c1_i, c1_r, c1_s, c1_m, cS_0, cS_i, cS_l, cS_r, cS_s, cS_m, pN, z_rc_r, zE1, zE2, zE3, true_and, and_true, Nat.zero_add, Nat.reduceAdd, Nat.reduceLeDiff, true_or, or_true, hb.o, hb.fr1, hb.zf1, hb.r1.o, hb.fr7, hb.zf7, hb.wo]
  refine c_layWays hb h fun D1 h1 h2 h3 => ?_
  refine c_gget hb h2 i0 i1 (by omega) (by omega) ?_
  refine c_goalOf hb h2 i0 i1 ?_
  refine c_gnext hb h2 h3 (by exact (h.2.2.1.2.2.1 i i0 i1).2.2.2.1) (h.2.2.1.gl i0 i1) fun D2 g1 g2 g3 => ?_
  exact hP D2 (h1.trans g1) g2
/-- loudStep, when the ways are laid: -1: he stays -/
theorem c_loudStep {M : Int} {b : Nat} {a : Int → Int} {i : Int} {D : Mem} {P : Int → Mem → Prop} (hb : zBk b) (h : BK M D b a) (ho : zOP D b a) (i0 : 0 ≤ i) (i1 : i < a 1) (hP : ∀ D', Fr (b + 22) (b + 27) D D' → BK M D' b a → zOP D' b a → P (if sNa a i = a (34 + i) then -1 else zLo (a (16 + i)) (a (34 + i) / 4) (a 3)) D') : zC miX0_loudStep [zr b, zi i] D P := by
  have hw := h.2.2.1.2.2.1 i i0 i1
  have hat : inC (a (34 + i)) := hw.2.2.2.1
  have ha0 := hat.1
  have ha1 := hat.2
  refine e_X0_loudStep ?_
  simp only [tX0_loudStep_0, w_ic, w_lc, w_lds, w_ild, w_lld, w_ald, w_ist, w_lst, w_ast, w_iinc, w_iadd, w_isub, w_imul, w_idiv, w_irem, w_iand, w_ior, w_ixor, w_ishl, w_ishr, w_iushr, w_ineg, w_ladd, w_lsub, w_lmul, w_ldiv, w_lrem, w_lcmp, w_i2l, w_l2i, w_dup, w_pop, w_dup2, w_ieq, w_zeq, w_ine, w_zne, w_ilt, w_zlt, w_ige, w_zge, w_igt, w_zgt, w_ile, w_zle, w_cut, w_tsw, zsw, w_iret, w_zret, w_lret, w_vret, w_nret, w_getI, w_getJ, w_getR, w_putI, w_putZ, w_putJ, w_iald, w_zald, w_iast, w_zast, w_alen, w_sI, w_sJ, w_sV, w_vI, w_vJ, w_vV, w_tI, w_mmax, w_mmin, w_mabs, w_lmax, w_acopy, gL, sL, kl_i, kl_l, kl_r, kl_s, kl_m, qI_i, qJ_l, qA_r, qA_s, pI_i, pJ_l, pA_r, pS_s, pM_m, pV_v, c1_i, c1_r, c1_s, c1_m, cS_0, cS_i, cS_l, cS_r, cS_s, cS_m, pN, z_rc_r, zE1, zE2, zE3, true_and, and_true, Nat.zero_add, Nat.reduceAdd, Nat.reduceLeDiff, true_or, or_true, hb.o, hb.fr1, hb.zf1, hb.r1.o, hb.fr7, hb.zf7, hb.wo, hb.m]
  refine c_gget hb h i0 i1 (by omega) (by omega) ?_
  rw [show 16 + 6 * 3 + i = 34 + i by omega]
  refine c_goalOf hb h i0 i1 ?_
  refine c_gnext hb h ho hat (h.2.2.1.gl i0 i1) fun D2 g1 g2 g3 => ?_
  have hP2 := hP D2 g1 g2 g3
  refine ⟨fun q => ?_, fun q => ?_⟩
  · have q' : ¬ sNa a i = a (34 + i) := q
    rw [if_neg q'] at hP2
    refine c_gget hb g2 i0 i1 (by omega) (by omega) ?_
    rw [show 16 + 6 * 0 + i = 16 + i by omega]
    refine c_floorOf ha0 ?_
    rw [g2.2.1.1.2.2.2.1]
    exact c_loudness hw.1.1 hw.1.2 (by omega) (by omega) h.2.2.1.n3.1 hP2
  · have q' : sNa a i = a (34 + i) := Decidable.not_not.mp q
    rw [if_pos q'] at hP2
    exact hP2
theorem c_loudOf {M : Int} {b : Nat} {a : Int → Int} {i : Int} {D : Mem} {P : Int → Mem → Prop} (hb : zBk b) (h : BK M D b a) (i0 : 0 ≤ i) (i1 : i < a 1) (hP : ∀ D', Fr (b + 22) (b + 27) D D' → BK M D' b a → P (sLd a i) D') : zC miX0_loudOf [zr b, zi i] D P := by
  have hw := h.2.2.1.2.2.1 i i0 i1
  have hat : inC (a (34 + i)) := hw.2.2.2.1
  have ha0 := hat.1
  have ha1 := hat.2
  refine e_X0_loudOf ?_
  simp only [tX0_loudOf_0, w_ic, w_lc, w_lds, w_ild, w_lld, w_ald, w_ist, w_lst, w_ast, w_iinc, w_iadd, w_isub, w_imul, w_idiv, w_irem, w_iand, w_ior, w_ixor, w_ishl, w_ishr, w_iushr, w_ineg, w_ladd, w_lsub, w_lmul, w_ldiv, w_lrem, w_lcmp, w_i2l, w_l2i, w_dup, w_pop, w_dup2, w_ieq, w_zeq, w_ine, w_zne, w_ilt, w_zlt, w_ige, w_zge, w_igt, w_zgt, w_ile, w_zle, w_cut, w_tsw, zsw, w_iret, w_zret, w_lret, w_vret, w_nret, w_getI, w_getJ, w_getR, w_putI, w_putZ, w_putJ, w_iald, w_zald, w_iast, w_zast, w_alen, w_sI, w_sJ, w_sV, w_vI, w_vJ, w_vV, w_tI, w_mmax, w_mmin, w_mabs, w_lmax, w_acopy, gL, sL, kl_i, kl_l, kl_r, kl_s, kl_m, qI_i, qJ_l, qA_r, qA_s, pI_i, pJ_l, pA_r, pS_s, pM_m, pV_v, c1_i, c1_r, c1_s, c1_m, cS_0, cS_i, cS_l, cS_r, cS_s, cS_m, pN, z_rc_r, zE1, zE2, zE3, true_and, and_true, Nat.zero_add, Nat.reduceAdd, Nat.reduceLeDiff, true_or, or_true, hb.o]
  refine c_layWays hb h fun D1 h1 h2 h3 => ?_
  refine c_loudStep hb h2 h3 i0 i1 fun D2 g1 g2 g3 => ?_
  have hP2 := hP D2 (h1.trans g1) g2
  unfold sLd at hP2
  split
  · rename_i q
    rw [if_pos q] at hP2
    exact hP2
  · rename_i q
    rw [if_neg q] at hP2
    have := (zLo_b (k := a (16 + i)) (f := a (34 + i) / 4) (m := a 3) (by omega) (by omega)).1
    rw [show max 0 (zLo (a (16 + i)) (a (34 + i) / 4) (a 3)) = zLo (a (16 + i)) (a (34 + i) / 4) (a 3) by omega]
    exact hP2
theorem c_hears {M : Int} {b : Nat} {a : Int → Int} {w x c : Int} {D : Mem} {P : Int → Mem → Prop} (hb : zBk b) (h : BK M D b a) (w0 : 0 ≤ w) (w1 : w < a 2) (x0 : 0 ≤ x) (x1 : x ≤ 1000) (hc : inC c) (h1 : 1 ≤ zHe (a (46 + w)) x (zAp (a (50 + w)) c) → P 1 D) (h0 : ¬ 1 ≤ zHe (a (46 + w)) x (zAp (a (50 + w)) c) → P 0 D) : zC miX0_hears [zr b, zi w, zi x, zi c] D P := by
  have hw := h.2.2.1.2.2.2.1 w w0 w1
  have hap := zAp_b hw.2 hc
  refine e_X0_hears ?_
  simp only [tX0_hears_0, w_ic, w_lc, w_lds, w_ild, w_lld, w_ald, w_ist, w_lst, w_ast, w_iinc, w_iadd, w_isub, w_imul, w_idiv, w_irem, w_iand, w_ior, w_ixor, w_ishl, w_ishr, w_iushr, w_ineg, w_ladd, w_lsub, w_lmul, w_ldiv, w_lrem, w_lcmp, w_i2l, w_l2i, w_dup, w_pop, w_dup2, w_ieq, w_zeq, w_ine, w_zne, w_ilt, w_zlt, w_ige, w_zge, w_igt, w_zgt, w_ile, w_zle, w_cut, w_tsw, zsw, w_iret, w_zret, w_lret, w_vret, w_nret, w_getI, w_getJ, w_getR, w_putI, w_putZ, w_putJ, w_iald, w_zald, w_iast, w_zast, w_alen, w_sI, w_sJ, w_sV, w_vI, w_vJ, w_vV, w_tI, w_mmax, w_mmin, w_mabs, w_lmax, w_acopy, gL, sL, kl_i, kl_l, kl_r, kl_s, kl_m, qI_i, qJ_l, qA_r, qA_s, pI_i, pJ_l, pA_r, pS_s, pM_m, pV_v, c1_i, c1_r, c1_s, c1_m, cS_0, cS_i, cS_l, cS_r, cS_s, cS_m, pN, z_rc_r, zE1, zE2, zE3, true_and, and_true, Nat.zero_add, Nat.reduceAdd, Nat.reduceLeDiff, true_or, or_true, hb.o, hb.fr2, hb.zf2, hb.r2.o]
  refine c_wget hb h w0 w1 (by omega) (by omega) ?_
  refine c_wget hb h w0 w1 (by omega) (by omega) ?_
  rw [show 46 + 4 * 0 + w = 46 + w by omega, show 46 + 4 * 1 + w = 50 + w by omega]
  refine c_apart hw.2 hc ?_
  refine c_hearing hw.1.1 hw.1.2 x0 x1 hap.1 (by omega) ⟨fun q => h0 (by omega), fun q => h1 (by omega)⟩
theorem c_stepsBetween {M : Int} {b : Nat} {a : Int → Int} {c g : Int} {D : Mem} {P : Int → Mem → Prop} (hb : zBk b) (h : BK M D b a) (hc : inC c) (hg : inC g) (hP : ∀ D', Fr (b + 22) (b + 27) D D' → BK M D' b a → P (sD (sOp a) g c) D') : zC miX0_stepsBetween [zr b, zi c, zi g] D P := by
  refine e_X0_stepsBetween ?_
  simp only [tX0_stepsBetween_0, w_ic, w_lc, w_lds, w_ild, w_lld, w_ald, w_ist, w_lst, w_ast, w_iinc, w_iadd, w_isub, w_imul, w_idiv, w_irem, w_iand, w_ior, w_ixor, w_ishl, w_ishr, w_iushr, w_ineg, w_ladd, w_lsub, w_lmul, w_ldiv, w_lrem, w_lcmp, w_i2l, w_l2i, w_dup, w_pop, w_dup2, w_ieq, w_zeq, w_ine, w_zne, w_ilt, w_zlt, w_ige, w_zge, w_igt, w_zgt, w_ile, w_zle, w_cut, w_tsw, zsw, w_iret, w_zret, w_lret, w_vret, w_nret, w_getI, w_getJ, w_getR, w_putI, w_putZ, w_putJ, w_iald, w_zald, w_iast, w_zast, w_alen, w_sI, w_sJ, w_sV, w_vI, w_vJ, w_vV, w_tI, w_mmax, w_mmin, w_mabs, w_lmax, w_acopy, gL, sL, kl_i, kl_l, kl_r, kl_s, kl_m, qI_i, qJ_l, qA_r, qA_s, pI_i, pJ_l, pA_r, pS_s, pM_m, pV_v, c1_i, c1_r, c1_s, c1_m, cS_0, cS_i, cS_l, cS_r, cS_s, cS_m, pN, z_rc_r, zE1, zE2, zE3, true_and, and_true, Nat.zero_add, Nat.reduceAdd, Nat.reduceLeDiff, true_or, or_true, hb.o, hb.fr7, hb.zf7, hb.wo]
  refine c_layWays hb h fun D1 h1 h2 h3 => ?_
  exact c_gdist hb h2 h3 hc hg fun D2 g1 g2 g3 => hP D2 (h1.trans g1) g2
theorem c_hasLadder {M : Int} {b : Nat} {a : Int → Int} {c : Int} {D : Mem} {P : Int → Mem → Prop} (hb : zBk b) (h : BK M D b a) (h1 : (∃ k, 0 ≤ k ∧ k < a 0 ∧ a (4 + k) = c) → P 1 D) (h0 : (∀ k, 0 ≤ k → k < a 0 → a (4 + k) ≠ c) → P 0 D) : zC miX0_hasLadder [zr b, zi c] D P := by
  have n0 := h.2.2.1.n0
  have loop : ∀ (m : Nat) (k : Int), (a 0 - k).toNat = m → 0 ≤ k → k ≤ a 0 → (∀ j, 0 ≤ j → j < k → a (4 + j) ≠ c) → zW miX0_hasLadder P 2 [zr b, zi c, zi k] D := by
    intro m
    induction m with
    | zero =>
      intro k hm k0 k1 hz
      refine sX0_hasLadder_2 _ _ _ _ _ ?_
      simp only [tX0_hasLadder_2, w_ic, w_lc, w_lds, w_ild, w_lld, w_ald, w_ist, w_lst, w_ast, w_iinc, w_iadd, w_isub, w_imul, w_idiv, w_irem, w_iand, w_ior, w_ixor, w_ishl, w_ishr, w_iushr, w_ineg, w_ladd, w_lsub, w_lmul, w_ldiv, w_lrem, w_lcmp, w_i2l, w_l2i, w_dup, w_pop, w_dup2, w_ieq, w_zeq, w_ine, w_zne, w_ilt, w_zlt, w_ige, w_zge, w_igt, w_zgt, w_ile, w_zle, w_cut, w_tsw, zsw, w_iret, w_zret, w_lret, w_vret, w_nret, w_getI, w_getJ, w_getR, w_putI, w_putZ, w_putJ, w_iald, w_zald, w_iast, w_zast, w_alen, w_sI, w_sJ, w_sV, w_vI, w_vJ, w_vV, w_tI, w_mmax, w_mmin, w_mabs, w_lmax, w_acopy, gL, sL, kl_i, kl_l, kl_r, kl_s, kl_m, qI_i, qJ_l, qA_r, qA_s, pI_i, pJ_l, pA_r, pS_s, pM_m, pV_v, c1_i, c1_r, c1_s, c1_m, cS_0, cS_i, cS_l, cS_r, cS_s, cS_m, pN, z_rc_r, zE1, zE2, zE3, true_and, and_true, Nat.zero_add, Nat.reduceAdd, Nat.reduceLeDiff, true_or, or_true, hb.o, hb.fr0, hb.zf0, hb.r0.o]
      exact c_lsize hb h ⟨fun _ => h0 fun j j0 j1 => hz j j0 (by omega), fun q => absurd (by omega) q⟩
    | succ m ih =>
      intro k hm k0 k1 hz
      refine sX0_hasLadder_2 _ _ _ _ _ ?_
      simp only [tX0_hasLadder_2, w_ic, w_lc, w_lds, w_ild, w_lld, w_ald, w_ist, w_lst, w_ast, w_iinc, w_iadd, w_isub, w_imul, w_idiv, w_irem, w_iand, w_ior, w_ixor, w_ishl, w_ishr, w_iushr, w_ineg, w_ladd, w_lsub, w_lmul, w_ldiv, w_lrem, w_lcmp, w_i2l, w_l2i, w_dup, w_pop, w_dup2, w_ieq, w_zeq, w_ine, w_zne, w_ilt, w_zlt, w_ige, w_zge, w_igt, w_zgt, w_ile, w_zle, w_cut, w_tsw, zsw, w_iret, w_zret, w_lret, w_vret, w_nret, w_getI, w_getJ, w_getR, w_putI, w_putZ, w_putJ, w_iald, w_zald, w_iast, w_zast, w_alen, w_sI, w_sJ, w_sV, w_vI, w_vJ, w_vV, w_tI, w_mmax, w_mmin, w_mabs, w_lmax, w_acopy, gL, sL, kl_i, kl_l, kl_r, kl_s, kl_m, qI_i, qJ_l, qA_r, qA_s, pI_i, pJ_l, pA_r, pS_s, pM_m, pV_v, c1_i, c1_r, c1_s, c1_m, cS_0, cS_i, cS_l, cS_r, cS_s, cS_m, pN, z_rc_r, zE1, zE2, zE3, true_and, and_true, Nat.zero_add, Nat.reduceAdd, Nat.reduceLeDiff, true_or, or_true, hb.o, hb.fr0, hb.zf0, hb.r0.o]
      refine c_lsize hb h ⟨fun q => absurd q (by omega), fun _ => ?_⟩
      refine c_lget hb h k0 (by omega) (by omega) (by omega) ?_
      rw [show 4 + 6 * 0 + k = 4 + k by omega]
      refine ⟨fun q => ⟨⟨by omega, by omega⟩, ih (k + 1) (by omega) (by omega) (by omega) fun j j0 j1 => ?_⟩, fun q => h1 ⟨k, k0, by omega, Decidable.not_not.mp q⟩⟩
      by_cases e : j = k
      · rw [e]; exact q
      · exact hz j j0 (by omega)
  refine e_X0_hasLadder ?_
  simp only [tX0_hasLadder_0, w_ic, w_lc, w_lds, w_ild, w_lld, w_ald, w_ist, w_lst, w_ast, w_iinc, w_iadd, w_isub, w_imul, w_idiv, w_irem, w_iand, w_ior, w_ixor, w_ishl, w_ishr, w_iushr, w_ineg, w_ladd, w_lsub, w_lmul, w_ldiv, w_lrem, w_lcmp, w_i2l, w_l2i, w_dup, w_pop, w_dup2, w_ieq, w_zeq, w_ine, w_zne, w_ilt, w_zlt, w_ige, w_zge, w_igt, w_zgt, w_ile, w_zle, w_cut, w_tsw, zsw, w_iret, w_zret, w_lret, w_vret, w_nret, w_getI, w_getJ, w_getR, w_putI, w_putZ, w_putJ, w_iald, w_zald, w_iast, w_zast, w_alen, w_sI, w_sJ, w_sV, w_vI, w_vJ, w_vV, w_tI, w_mmax, w_mmin, w_mabs, w_lmax, w_acopy, gL, sL, kl_i, kl_l, kl_r, kl_s, kl_m, qI_i, qJ_l, qA_r, qA_s, pI_i, pJ_l, pA_r, pS_s, pM_m, pV_v, c1_i, c1_r, c1_s, c1_m, cS_0, cS_i, cS_l, cS_r, cS_s, cS_m, pN, z_rc_r, zE1, zE2, zE3, true_and, and_true, Nat.zero_add, Nat.reduceAdd, Nat.reduceLeDiff, true_or, or_true]
  exact loop _ 0 rfl (by omega) (by omega) (fun j j0 j1 => by omega)
