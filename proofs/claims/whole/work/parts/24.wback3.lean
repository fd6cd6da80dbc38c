/-! ===== 24: a Back takes another; what is remembered and recalled ===== -/
theorem c_Rows_take' {o r a o2 r2 a2 lim wid : Nat} {D : Mem} {P : Int → Mem → Prop} (hR : zRows o r a lim wid) (hR2 : zRows o2 r2 a2 lim wid) (hn : o2 ≠ a) (hP : ∀ D', (∀ q, q ≠ o → q ≠ a → D' q = D q) → (∀ k : Int, k ≠ 3 → D' o k = D o k) → D' o 3 = D o2 3 → (∀ j : Int, 0 ≤ j → j < lim * wid → D' a j = D a2 j) → P 0 D') : zC miX3_take [zr o, zr o2] D P := by
  have hoa : o ≠ a := hR.2.2.2
  refine c_Rows_take hR hR2 ?_
  have e : ∀ q j, q ≠ a → zCp D a2 0 a 0 ((lim * wid : Nat) : Int) q j = D q j := fun q j h => by
    unfold zCp
    rw [if_neg (fun w => h w.1)]
  refine hP _ (fun q h1 h2 => ?_) (fun k hk => ?_) ?_ (fun j j0 j1 => ?_)
  · funext j
    rw [zU_o h1, e q j h2]
  · rw [zU_k hk, e o k hoa]
  · rw [zU_s, e o2 3 hn]
  · rw [zU_o (Ne.symm hoa)]
    unfold zCp
    rw [if_pos ⟨rfl, j0, by rw [Int.natCast_mul]; omega⟩, show (0 : Int) + (j - 0) = j by omega]
theorem zPc.tk {D D' : Mem} {o r o2 r2 : Nat} {w n l : Int} {f : Int → Int → Int} (h : zPc D o2 r2 w n f) (h3 : D' o 3 = D o2 3) (hr : ∀ j : Int, 0 ≤ j → j < l * w → D' r j = D r2 j) (hn : n ≤ l) (hw : 0 < w) : zPc D' o r w n f := by
  refine ⟨by rw [h3]; exact h.1, fun k c k0 k1 c0 c1 => ?_⟩
  have := zm_lt (i := k) (c := c) (w := w) (l := l) k0 (by omega) c0 c1
  rw [hr _ (by omega) this.2]
  exact h.2 k c k0 k1 c0 c1
theorem c_take {M M2 : Int} {b b2 : Nat} {a a2 : Int → Int} {D : Mem} {P : Int → Mem → Prop} (hb : zBk b) (hb2 : zBk b2) (hd : b + 27 ≤ b2 ∨ b2 + 27 ≤ b) (h : BK M D b a) (h2 : BK M2 D b2 a2) (hP : ∀ D', Fr b (b + 22) D D' → BK M2 D' b a2 → P 0 D') : zC miX0_take [zr b, zr b2] D P := by
  refine e_X0_take ?_
  simp only [tX0_take_0, w_ic, w_lc, w_lds, w_ild, w_lld, w_ald, w_ist, w_lst, w_ast, w_iinc, w_iadd, w_isub, w_imul, w_idiv, w_irem, w_iand, w_ior, w_ixor, w_ishl, w_ishr, w_iushr, w_ineg, w_ladd, w_lsub, w_lmul, w_ldiv, w_lrem, w_lcmp, w_i2l, w_l2i, w_dup, w_pop, w_dup2, w_ieq, w_zeq, w_ine, w_zne, w_ilt, w_zlt, w_ige, w_zge, w_igt, w_zgt, w_ile, w_zle, w_cut, w_tsw, zsw, w_iret, w_zret, w_lret, w_vret, w_nret, w_getI, w_getJ, w_getR, w_putI, w_putZ, w_putJ, w_iald, w_zald, w_iast, w_zast, w_alen, w_sI, w_sJ, w_sV, w_vI, w_vJ, w_vV, w_tI, w_mmax, w_mmin, w_mabs, w_lmax, w_acopy, gL, sL, kl_i, kl_l, kl_r, kl_s, kl_m, qI_i, qJ_l, qA_r, qA_s, pI_i, pJ_l, pA_r, pS_s, pM_m, pV_v, c1_i, c1_r, c1_s, c1_m, cS_0, cS_i, cS_l, cS_r, cS_s, cS_m, pN, z_rc_r, zE1, zE2, zE3, true_and, and_true, Nat.zero_add, Nat.reduceAdd, Nat.reduceLeDiff, true_or, or_true, hb.o, hb.fr0, hb.zf0, hb.fr1, hb.zf1, hb.fr2, hb.zf2, hb.fr3, hb.zf3, hb.fr4, hb.zf4, hb.fr5, hb.zf5, hb.fr6, hb.zf6, hb.m, hb.r0.o, hb.r1.o, hb.r2.o, hb.r3.o, hb.r4.o, hb.r5.o, hb.r6.o, hb2.o, hb2.fr0, hb2.zf0, hb2.fr1, hb2.zf1, hb2.fr2, hb2.zf2, hb2.fr3, hb2.zf3, hb2.fr4, hb2.zf4, hb2.fr5, hb2.zf5, hb2.fr6, hb2.zf6, hb2.m, hb2.r0.o, hb2.r1.o, hb2.r2.o, hb2.r3.o, hb2.r4.o, hb2.r5.o, hb2.r6.o]
  refine c_Rows_take' hb.r0 hb2.r0 (by omega) fun D1 e1 f1 g1 r1 => ?_
  refine c_Rows_take' hb.r1 hb2.r1 (by omega) fun D2 e2 f2 g2 r2 => ?_
  refine c_Rows_take' hb.r2 hb2.r2 (by omega) fun D3 e3 f3 g3 r3 => ?_
  refine c_Rows_take' hb.r3 hb2.r3 (by omega) fun D4 e4 f4 g4 r4 => ?_
  refine c_Rows_take' hb.r4 hb2.r4 (by omega) fun D5 e5 f5 g5 r5 => ?_
  refine c_Rows_take' hb.r5 hb2.r5 (by omega) fun D6 e6 f6 g6 r6 => ?_
  refine c_Rows_take' hb.r6 hb2.r6 (by omega) fun D7 e7 f7 g7 r7 => ?_
  have E1 : ∀ q, q ≠ b + 1 → q ≠ b + 3 → D1 q = D q := e1
  have E2 : ∀ q, q ≠ b + 1 → q ≠ b + 3 → q ≠ b + 4 → q ≠ b + 6 → D2 q = D q := fun q a1 a2 a3 a4 => (e2 q a3 a4).trans (E1 q a1 a2)
  have E3 : ∀ q, q ≠ b + 1 → q ≠ b + 3 → q ≠ b + 4 → q ≠ b + 6 → q ≠ b + 7 → q ≠ b + 9 → D3 q = D q := fun q a1 a2 a3 a4 a5 a6 => (e3 q a5 a6).trans (E2 q a1 a2 a3 a4)
  have E4 : ∀ q, (q < b + 1 ∨ b + 12 < q) → D4 q = D q := fun q a1 => (e4 q (by omega) (by omega)).trans (E3 q (by omega) (by omega) (by omega) (by omega) (by omega) (by omega))
  have E5 : ∀ q, (q < b + 1 ∨ b + 15 < q) → D5 q = D q := fun q a1 => (e5 q (by omega) (by omega)).trans (E4 q (by omega))
  have E6 : ∀ q, (q < b + 1 ∨ b + 18 < q) → D6 q = D q := fun q a1 => (e6 q (by omega) (by omega)).trans (E5 q (by omega))
  have E7 : ∀ q, (q < b + 1 ∨ b + 21 < q) → D7 q = D q := fun q a1 => (e7 q (by omega) (by omega)).trans (E6 q (by omega))
  rw [E7 b2 (by omega), h2.2.1.m]
  refine hP _ (fun o ho => by rw [zU_ne (by omega), E7 o (by omega)]) ?_
  have w := h2.2.2.1
  have k7 : ∀ q, q ≠ b + 19 → q ≠ b + 21 → q ≠ b → zU D7 b 8 (a2 3) q = D6 q := fun q a1 a2' a3 => by rw [zU_ne a3]; exact e7 q a1 a2'
  have k6 : ∀ q, q ≠ b → q < b + 16 → zU D7 b 8 (a2 3) q = D5 q := fun q a1 a2' => (k7 q (by omega) (by omega) a1).trans (e6 q (by omega) (by omega))
  have k5 : ∀ q, q ≠ b → q < b + 13 → zU D7 b 8 (a2 3) q = D4 q := fun q a1 a2' => (k6 q a1 (by omega)).trans (e5 q (by omega) (by omega))
  have k4 : ∀ q, q ≠ b → q < b + 10 → zU D7 b 8 (a2 3) q = D3 q := fun q a1 a2' => (k5 q a1 (by omega)).trans (e4 q (by omega) (by omega))
  have k3 : ∀ q, q ≠ b → q < b + 7 → zU D7 b 8 (a2 3) q = D2 q := fun q a1 a2' => (k4 q a1 (by omega)).trans (e3 q (by omega) (by omega))
  have k2 : ∀ q, q ≠ b → q < b + 4 → zU D7 b 8 (a2 3) q = D1 q := fun q a1 a2' => (k3 q a1 (by omega)).trans (e2 q (by omega) (by omega))
  refine h.mk' (fun o ho => ?_) (ZB.mk' ?_ ?_ ?_ zU_s ?_ ?_ ?_ ?_) w (fun o o0 o1 => by rw [zU_ne (by omega), E7 o (by omega)])
  · rcases ho with q | q | q | q | q | q | q <;> subst q
    · rw [k2 _ (by omega) (by omega)]; exact ⟨f1 0 (by decide), f1 1 (by decide)⟩
    · rw [k3 _ (by omega) (by omega), f2 0 (by decide), f2 1 (by decide), E1 _ (by omega) (by omega)]; exact ⟨rfl, rfl⟩
    · rw [k4 _ (by omega) (by omega), f3 0 (by decide), f3 1 (by decide), E2 _ (by omega) (by omega) (by omega) (by omega)]; exact ⟨rfl, rfl⟩
    · rw [k5 _ (by omega) (by omega), f4 0 (by decide), f4 1 (by decide), E3 _ (by omega) (by omega) (by omega) (by omega) (by omega) (by omega)]; exact ⟨rfl, rfl⟩
    · rw [k6 _ (by omega) (by omega), f5 0 (by decide), f5 1 (by decide), E4 _ (by omega)]; exact ⟨rfl, rfl⟩
    · rw [k7 _ (by omega) (by omega) (by omega), f6 0 (by decide), f6 1 (by decide), E5 _ (by omega)]; exact ⟨rfl, rfl⟩
    · rw [zU_ne (by omega), f7 0 (by decide), f7 1 (by decide), E6 _ (by omega)]; exact ⟨rfl, rfl⟩
  · exact zPc.tk (l := 6) h2.2.1.l (by rw [k2 _ (by omega) (by omega)]; exact g1) (fun j j0 j1 => by rw [k2 _ (by omega) (by omega)]; exact r1 j j0 (by omega)) w.n0.2 (by omega)
  · exact zPc.tk (l := 6) h2.2.1.g (by rw [k3 _ (by omega) (by omega), g2, E1 _ (by omega) (by omega)]) (fun j j0 j1 => by rw [k3 _ (by omega) (by omega), r2 j j0 (by omega), E1 _ (by omega) (by omega)]) w.n1.2 (by omega)
  · exact zPc.tk (l := 4) h2.2.1.w (by rw [k4 _ (by omega) (by omega), g3, E2 _ (by omega) (by omega) (by omega) (by omega)]) (fun j j0 j1 => by rw [k4 _ (by omega) (by omega), r3 j j0 (by omega), E2 _ (by omega) (by omega) (by omega) (by omega)]) w.n2.2 (by omega)
  · exact zPc.tk (l := 5) h2.2.1.s (by rw [k5 _ (by omega) (by omega), g4, E3 _ (by omega) (by omega) (by omega) (by omega) (by omega) (by omega)]) (fun j j0 j1 => by rw [k5 _ (by omega) (by omega), r4 j j0 (by omega), E3 _ (by omega) (by omega) (by omega) (by omega) (by omega) (by omega)]) w.n4.2 (by omega)
  · exact zPc.tk (l := 6) h2.2.1.n (by rw [k6 _ (by omega) (by omega), g5, E4 _ (by omega)]) (fun j j0 j1 => by rw [k6 _ (by omega) (by omega), r5 j j0 (by omega), E4 _ (by omega)]) w.n5.2 (by omega)
  · exact zPc.tk (l := 6) h2.2.1.k (by rw [k7 _ (by omega) (by omega) (by omega), g6, E5 _ (by omega)]) (fun j j0 j1 => by rw [k7 _ (by omega) (by omega) (by omega), r6 j j0 (by omega), E5 _ (by omega)]) w.n6.2 (by omega)
  · have hp := h2.2.1.p
    have c0 := w.n0
    have c1 := w.n1
    have c7 := w.n7
    have er : ∀ j : Int, 0 ≤ j → j < 152 → zU D7 b 8 (a2 3) (b + 21) j = D (b2 + 21) j := fun j j0 j1 => by rw [zU_ne (by omega), r7 j j0 (by omega), E6 _ (by omega)]
    refine ⟨by rw [zU_ne (by omega), g7, E6 _ (by omega)]; exact hp.1, fun u u0 u1 => ?_⟩
    have := hp.2 u u0 u1
    refine ⟨by rw [er _ (by omega) (by omega)]; exact this.1, fun i i0 i1 => ?_, fun k k0 k1 => ?_⟩
    · rw [er _ (by omega) (by omega), er _ (by omega) (by omega)]; exact this.2.1 i i0 i1
    · rw [er _ (by omega) (by omega)]; exact this.2.2 k k0 k1
theorem c_remember {M : Int} {b : Nat} {a : Int → Int} {D : Mem} {P : Int → Mem → Prop} (hb : zBk b) (h : BK M D b a) (hP : ∀ D', Fr b (b + 22) D D' → BK M D' b (sMinds a) → P 0 D') : zC miX0_remember [zr b] D P := by
  -- when there is room
  have main : ∀ (D : Mem) (a : Int → Int) (P : Int → Mem → Prop), BK M D b a → a 120 < 8 → (∀ D', Fr b (b + 22) D D' → BK M D' b (sMind a) → P 0 D') → ∀ v1 v2 : AV, zC miX3_add [zr (b + 19), zi (a 3), zi 0, zi 0, zi 0] D (fun x D' => zW miX0_remember P 34 [zr b, zi x, zi 0] D') := by
    intro D a P h h8 hP v1 v2
    have c0 := h.2.2.1.n0
    have c1 := h.2.2.1.n1
    have c7 := h.2.2.1.n7
    refine c_Rows_add hb.r6 h.1.2.2.2.2.2.2 (by rw [h.2.1.p.1]; exact h8) (by omega) fun D1 d1 d2 d3 d4 d5 => ?_
    rw [h.2.1.p.1] at d3 d4 d5
    rw [h.2.1.p.1]
    have hRD : zRD D1 (b + 19) 8 19 := by
      obtain ⟨g1, g2, g3, g4⟩ := h.1.2.2.2.2.2.2
      exact ⟨by rw [d2 0 (by decide)]; exact g1, by rw [d2 1 (by decide)]; exact g2, by omega, by omega⟩
    have e19 : ((19 : Nat) : Int) = 19 := rfl
    rw [e19] at d4 d5
    have w19 : ∀ (D2 : Mem) (c x : Int) (P : Int → Mem → Prop), D2 (b + 19) = D1 (b + 19) → 0 ≤ c → c < 19 → P 0 (zU D2 (b + 21) (a 120 * 19 + c) x) → zC miX3_set [zr (b + 19), zi (a 120), zi c, zi x] D2 P := by
      intro D2 c x P e q0 q1 hp
      exact c_Rows_set hb.r6 (hRD.of_eq e) c7.1 (by rw [e, d3]; omega) q0 q1 hp
    -- the end
    have fin : ∀ D2 : Mem, (∀ q, q ≠ b + 19 → q ≠ b + 21 → D2 q = D q) → D2 (b + 19) = D1 (b + 19) → (∀ j : Int, j < a 120 * 19 → D2 (b + 21) j = D (b + 21) j) → D2 (b + 21) (a 120 * 19) = a 3 → (∀ i, 0 ≤ i → i < a 1 → D2 (b + 21) (a 120 * 19 + (1 + i)) = a (34 + i) ∧ D2 (b + 21) (a 120 * 19 + (7 + i)) = a (40 + i)) → (∀ k, 0 ≤ k → k < a 0 → D2 (b + 21) (a 120 * 19 + (13 + k)) = a (10 + k)) → P 0 D2 := by
      intro D2 q1 q2 q3 q4 q5 q6
      have n := fun j p q => sMind_n (a := a) (j := j) c7.1 p q
      refine hP D2 (fun o ho => q1 o (by omega) (by omega)) ?_
      have wa := sMind_wa h.2.2.1 h8
      refine h.mk' (fun o ho => ?_) (ZB.mk' (h.2.1.l.of (q1 _ (by omega) (by omega)) (q1 _ (by omega) (by omega)) c0.2 fun j hj => n j (by omega) (by omega)) (h.2.1.g.of (q1 _ (by omega) (by omega)) (q1 _ (by omega) (by omega)) c1.2 fun j hj => n j (by omega) (by omega)) (h.2.1.w.of (q1 _ (by omega) (by omega)) (q1 _ (by omega) (by omega)) h.2.2.1.n2.2 fun j hj => n j (by omega) (by omega)) (by rw [q1 _ (by omega) (by omega), n 3 (by omega) (by omega)]; exact h.2.1.m) (h.2.1.s.of (q1 _ (by omega) (by omega)) (q1 _ (by omega) (by omega)) h.2.2.1.n4.2 fun j hj => n j (by omega) (by omega)) (h.2.1.n.of (q1 _ (by omega) (by omega)) (q1 _ (by omega) (by omega)) h.2.2.1.n5.2 fun j hj => n j (by omega) (by omega)) (h.2.1.k.of (q1 _ (by omega) (by omega)) (q1 _ (by omega) (by omega)) h.2.2.1.n6.2 fun j hj => n j (by omega) (by omega)) ?_) wa (fun o o0 o1 => q1 o (by omega) (by omega))
      · by_cases q : o = b + 19
        · rw [q, q2]; exact ⟨d2 0 (by decide), d2 1 (by decide)⟩
        · rw [q1 o q (by unfold isRw at ho; omega)]; exact ⟨rfl, rfl⟩
      · refine ⟨by rw [q2, d3, sMind_c], fun u u0 u1 => ?_⟩
        rw [sMind_c] at u1
        rw [n 0 (by omega) (by omega), n 1 (by omega) (by omega)]
        by_cases e : u = a 120
        · rw [e, sMind_m c7.1]
          refine ⟨q4, fun i i0 i1 => ?_, fun k k0 k1 => ?_⟩
          · rw [sMind_a c7.1 i0 (by omega), sMind_t c7.1 i0 (by omega)]; exact q5 i i0 i1
          · rw [sMind_d c7.1 k0 (by omega)]; exact q6 k k0 k1
        · have hp := h.2.1.p.2 u u0 (by omega)
          refine ⟨?_, fun i i0 i1 => ?_, fun k k0 k1 => ?_⟩
          · rw [q3 _ (by omega), n _ (by omega) (by omega)]; exact hp.1
          · rw [q3 _ (by omega), q3 _ (by omega), n _ (by omega) (by omega), n _ (by omega) (by omega)]; exact hp.2.1 i i0 i1
          · rw [q3 _ (by omega), n _ (by omega) (by omega)]; exact hp.2.2 k k0 k1
    -- the ladders
    have lad : ∀ (m : Nat) (k : Int) (D2 : Mem), (a 0 - k).toNat = m → 0 ≤ k → k ≤ a 0 → (∀ q, q ≠ b + 19 → q ≠ b + 21 → D2 q = D q) → D2 (b + 19) = D1 (b + 19) → (∀ j : Int, j < a 120 * 19 → D2 (b + 21) j = D (b + 21) j) → D2 (b + 21) (a 120 * 19) = a 3 → (∀ i, 0 ≤ i → i < a 1 → D2 (b + 21) (a 120 * 19 + (1 + i)) = a (34 + i) ∧ D2 (b + 21) (a 120 * 19 + (7 + i)) = a (40 + i)) → (∀ k', 0 ≤ k' → k' < k → D2 (b + 21) (a 120 * 19 + (13 + k')) = a (10 + k')) → zW miX0_remember P 94 [zr b, zi (a 120), zi k] D2 := by
      intro m
      induction m with
      | zero =>
        intro k D2 hm k0 k1 q1 q2 q3 q4 q5 q6
        refine sX0_remember_94 _ _ _ _ _ ?_
        simp only [tX0_remember_94, w_ic, w_lc, w_lds, w_ild, w_lld, w_ald, w_ist, w_lst, w_ast, w_iinc, w_iadd, w_isub, w_imul, w_idiv, w_irem, w_iand, w_ior, w_ixor, w_ishl, w_ishr, w_iushr, w_ineg, w_ladd, w_lsub, w_lmul, w_ldiv, w_lrem, w_lcmp, w_i2l, w_l2i, w_dup, w_pop, w_dup2, w_ieq, w_zeq, w_ine, w_zne, w_ilt, w_zlt, w_ige, w_zge, w_igt, w_zgt, w_ile, w_zle, w_cut, w_tsw, zsw, w_iret, w_zret, w_lret, w_vret, w_nret, w_getI, w_getJ, w_getR, w_putI, w_putZ, w_putJ, w_iald, w_zald, w_iast, w_zast, w_alen, w_sI, w_sJ, w_sV, w_vI, w_vJ, w_vV, w_tI, w_mmax, w_mmin, w_mabs, w_lmax, w_acopy, gL, sL, kl_i, kl_l, kl_r, kl_s, kl_m, qI_i, qJ_l, qA_r, qA_s, pI_i, pJ_l, pA_r, pS_s, pM_m, pV_v, c1_i, c1_r, c1_s, c1_m, cS_0, cS_i, cS_l, cS_r, cS_s, cS_m, pN, z_rc_r, zE1, zE2, zE3, true_and, and_true, Nat.zero_add, Nat.reduceAdd, Nat.reduceLeDiff, true_or, or_true, hb.o, hb.fr0, hb.zf0, hb.r0.o, hb.fr6, hb.zf6, hb.r6.o]
        refine c_Rows_size hb.r0 ?_
        rw [q1 _ (by omega) (by omega), h.2.1.l.1]
        exact ⟨fun _ => fin D2 q1 q2 q3 q4 q5 fun k' k0' k1' => q6 k' k0' (by omega), fun q => absurd (by omega) q⟩
      | succ m ih =>
        intro k D2 hm k0 k1 q1 q2 q3 q4 q5 q6
        refine sX0_remember_94 _ _ _ _ _ ?_
        simp only [tX0_remember_94, w_ic, w_lc, w_lds, w_ild, w_lld, w_ald, w_ist, w_lst, w_ast, w_iinc, w_iadd, w_isub, w_imul, w_idiv, w_irem, w_iand, w_ior, w_ixor, w_ishl, w_ishr, w_iushr, w_ineg, w_ladd, w_lsub, w_lmul, w_ldiv, w_lrem, w_lcmp, w_i2l, w_l2i, w_dup, w_pop, w_dup2, w_ieq, w_zeq, w_ine, w_zne, w_ilt, w_zlt, w_ige, w_zge, w_igt, w_zgt, w_ile, w_zle, w_cut, w_tsw, zsw, w_iret, w_zret, w_lret, w_vret, w_nret, w_getI, w_getJ, w_getR, w_putI, w_putZ, w_putJ, w_iald, w_zald, w_iast, w_zast, w_alen, w_sI, w_sJ, w_sV, w_vI, w_vJ, w_vV, w_tI, w_mmax, w_mmin, w_mabs, w_lmax, w_acopy, gL, sL, kl_i, kl_l, kl_r, kl_s, kl_m, qI_i, qJ_l, qA_r, qA_s, pI_i, pJ_l, pA_r, pS_s, pM_m, pV_v, c1_i, c1_r, c1_s, c1_m, cS_0, cS_i, cS_l, cS_r, cS_s, cS_m, pN, z_rc_r, zE1, zE2, zE3, true_and, and_true, Nat.zero_add, Nat.reduceAdd, Nat.reduceLeDiff, true_or, or_true, hb.o, hb.fr0, hb.zf0, hb.r0.o, hb.fr6, hb.zf6, hb.r6.o]
        refine c_Rows_size hb.r0 ?_
        rw [q1 _ (by omega) (by omega), h.2.1.l.1]
        refine ⟨fun q => absurd q (by omega), fun _ => ⟨⟨by omega, by omega⟩, ?_⟩⟩
        refine c_lget' hb h (q1 _ (by omega) (by omega)) (q1 _ (by omega) (by omega)) k0 (by omega) (by omega) (by omega) ?_
        rw [show 4 + 6 * 1 + k = 10 + k by omega]
        refine w19 D2 (13 + k) _ _ q2 (by omega) (by omega) ⟨⟨by omega, by omega⟩, ?_⟩
        refine ih (k + 1) _ (by omega) (by omega) (by omega) (fun q a1 a2 => by rw [zU_ne a2]; exact q1 q a1 a2) (by rw [zU_ne (by omega)]; exact q2) (fun j hj => by rw [zU_k (by omega)]; exact q3 j hj) (by rw [zU_k (by omega)]; exact q4) (fun i i0 i1 => by rw [zU_k (by omega), zU_k (by omega)]; exact q5 i i0 i1) (fun k' k0' k1' => ?_)
        by_cases e : k' = k
        · rw [e, zU_s]
        · rw [zU_k (by omega)]; exact q6 k' k0' (by omega)
    -- the goers
    have goe : ∀ (m : Nat) (k : Int) (D2 : Mem), (a 1 - k).toNat = m → 0 ≤ k → k ≤ a 1 → (∀ q, q ≠ b + 19 → q ≠ b + 21 → D2 q = D q) → D2 (b + 19) = D1 (b + 19) → (∀ j : Int, j < a 120 * 19 → D2 (b + 21) j = D (b + 21) j) → D2 (b + 21) (a 120 * 19) = a 3 → (∀ i, 0 ≤ i → i < k → D2 (b + 21) (a 120 * 19 + (1 + i)) = a (34 + i) ∧ D2 (b + 21) (a 120 * 19 + (7 + i)) = a (40 + i)) → zW miX0_remember P 34 [zr b, zi (a 120), zi k] D2 := by
      intro m
      induction m with
      | zero =>
        intro k D2 hm k0 k1 q1 q2 q3 q4 q5
        refine sX0_remember_34 _ _ _ _ _ ?_
        simp only [tX0_remember_34, w_ic, w_lc, w_lds, w_ild, w_lld, w_ald, w_ist, w_lst, w_ast, w_iinc, w_iadd, w_isub, w_imul, w_idiv, w_irem, w_iand, w_ior, w_ixor, w_ishl, w_ishr, w_iushr, w_ineg, w_ladd, w_lsub, w_lmul, w_ldiv, w_lrem, w_lcmp, w_i2l, w_l2i, w_dup, w_pop, w_dup2, w_ieq, w_zeq, w_ine, w_zne, w_ilt, w_zlt, w_ige, w_zge, w_igt, w_zgt, w_ile, w_zle, w_cut, w_tsw, zsw, w_iret, w_zret, w_lret, w_vret, w_nret, w_getI, w_getJ, w_getR, w_putI, w_putZ, w_putJ, w_iald, w_zald, w_iast, w_zast, w_alen, w_sI, w_sJ, w_sV, w_vI, w_vJ, w_vV, w_tI, w_mmax, w_mmin, w_mabs, w_lmax, w_acopy, gL, sL, kl_i, kl_l, kl_r, kl_s, kl_m, qI_i, qJ_l, qA_r, qA_s, pI_i, pJ_l, pA_r, pS_s, pM_m, pV_v, c1_i, c1_r, c1_s, c1_m, cS_0, cS_i, cS_l, cS_r, cS_s, cS_m, pN, z_rc_r, zE1, zE2, zE3, true_and, and_true, Nat.zero_add, Nat.reduceAdd, Nat.reduceLeDiff, true_or, or_true, hb.o, hb.fr1, hb.zf1, hb.r1.o, hb.fr6, hb.zf6, hb.r6.o]
        refine c_Rows_size hb.r1 ?_
        rw [q1 _ (by omega) (by omega), h.2.1.g.1]
        exact ⟨fun _ => lad _ 0 D2 rfl (by omega) c0.1 q1 q2 q3 q4 (fun k' k0' k1' => q5 k' k0' (by omega)) (fun k' k0' k1' => by omega), fun q => absurd (by omega) q⟩
      | succ m ih =>
        intro k D2 hm k0 k1 q1 q2 q3 q4 q5
        refine sX0_remember_34 _ _ _ _ _ ?_
        simp only [tX0_remember_34, w_ic, w_lc, w_lds, w_ild, w_lld, w_ald, w_ist, w_lst, w_ast, w_iinc, w_iadd, w_isub, w_imul, w_idiv, w_irem, w_iand, w_ior, w_ixor, w_ishl, w_ishr, w_iushr, w_ineg, w_ladd, w_lsub, w_lmul, w_ldiv, w_lrem, w_lcmp, w_i2l, w_l2i, w_dup, w_pop, w_dup2, w_ieq, w_zeq, w_ine, w_zne, w_ilt, w_zlt, w_ige, w_zge, w_igt, w_zgt, w_ile, w_zle, w_cut, w_tsw, zsw, w_iret, w_zret, w_lret, w_vret, w_nret, w_getI, w_getJ, w_getR, w_putI, w_putZ, w_putJ, w_iald, w_zald, w_iast, w_zast, w_alen, w_sI, w_sJ, w_sV, w_vI, w_vJ, w_vV, w_tI, w_mmax, w_mmin, w_mabs, w_lmax, w_acopy, gL, sL, kl_i, kl_l, kl_r, kl_s, kl_m, qI_i, qJ_l, qA_r, qA_s, pI_i, pJ_l, pA_r, pS_s, pM_m, pV_v, c1_i, c1_r, c1_s, c1_m, cS_0, cS_i, cS_l, cS_r, cS_s, cS_m, pN, z_rc_r, zE1, zE2, zE3, true_and, and_true, Nat.zero_add, Nat.reduceAdd, Nat.reduceLeDiff, true_or, or_true, hb.o, hb.fr1, hb.zf1, hb.r1.o, hb.fr6, hb.zf6, hb.r6.o]
        refine c_Rows_size hb.r1 ?_
        rw [q1 _ (by omega) (by omega), h.2.1.g.1]
        refine ⟨fun q => absurd q (by omega), fun _ => ⟨⟨by omega, by omega⟩, ?_⟩⟩
        refine c_gget' hb h (q1 _ (by omega) (by omega)) (q1 _ (by omega) (by omega)) k0 (by omega) (by omega) (by omega) ?_
        rw [show 16 + 6 * 3 + k = 34 + k by omega]
        refine w19 D2 (1 + k) _ _ q2 (by omega) (by omega) ⟨⟨by omega, by omega⟩, ?_⟩
        refine c_gget' hb h (by rw [zU_ne (by omega)]; exact q1 _ (by omega) (by omega)) (by rw [zU_ne (by omega)]; exact q1 _ (by omega) (by omega)) k0 (by omega) (by omega) (by omega) ?_
        rw [show 16 + 6 * 4 + k = 40 + k by omega]
        refine w19 _ (7 + k) _ _ (by rw [zU_ne (by omega)]; exact q2) (by omega) (by omega) ⟨⟨by omega, by omega⟩, ?_⟩
        refine ih (k + 1) _ (by omega) (by omega) (by omega) (fun q a1 a2 => by rw [zU_ne a2, zU_ne a2]; exact q1 q a1 a2) (by rw [zU_ne (by omega), zU_ne (by omega)]; exact q2) (fun j hj => by rw [zU_k (by omega), zU_k (by omega)]; exact q3 j hj) (by rw [zU_k (by omega), zU_k (by omega)]; exact q4) (fun i i0 i1 => ?_)
        by_cases e : i = k
        · rw [e]; exact ⟨by rw [zU_k (by omega), zU_s], zU_s⟩
        · rw [zU_k (by omega), zU_k (by omega), zU_k (by omega), zU_k (by omega)]; exact q5 i i0 (by omega)
    refine goe _ 0 D1 rfl (by omega) c1.1 (fun q a1 a2 => d1 q a1 a2) rfl d5 ?_ (fun i i0 i1 => by omega)
    have := d4 0 (by omega) (by omega)
    rw [show a 120 * 19 + 0 = a 120 * 19 by omega] at this
    rw [this]
    rfl
  have hn : ((8 : Nat) : Int) = 8 := rfl
  have c0 := h.2.2.1.n0
  have c1 := h.2.2.1.n1
  have c7 := h.2.2.1.n7
  refine e_X0_remember ?_
  simp only [tX0_remember_0, w_ic, w_lc, w_lds, w_ild, w_lld, w_ald, w_ist, w_lst, w_ast, w_iinc, w_iadd, w_isub, w_imul, w_idiv, w_irem, w_iand, w_ior, w_ixor, w_ishl, w_ishr, w_iushr, w_ineg, w_ladd, w_lsub, w_lmul, w_ldiv, w_lrem, w_lcmp, w_i2l, w_l2i, w_dup, w_pop, w_dup2, w_ieq, w_zeq, w_ine, w_zne, w_ilt, w_zlt, w_ige, w_zge, w_igt, w_zgt, w_ile, w_zle, w_cut, w_tsw, zsw, w_iret, w_zret, w_lret, w_vret, w_nret, w_getI, w_getJ, w_getR, w_putI, w_putZ, w_putJ, w_iald, w_zald, w_iast, w_zast, w_alen, w_sI, w_sJ, w_sV, w_vI, w_vJ, w_vV, w_tI, w_mmax, w_mmin, w_mabs, w_lmax, w_acopy, gL, sL, kl_i, kl_l, kl_r, kl_s, kl_m, qI_i, qJ_l, qA_r, qA_s, pI_i, pJ_l, pA_r, pS_s, pM_m, pV_v, c1_i, c1_r, c1_s, c1_m, cS_0, cS_i, cS_l, cS_r, cS_s, cS_m, pN, z_rc_r, zE1, zE2, zE3, true_and, and_true, Nat.zero_add, Nat.reduceAdd, Nat.reduceLeDiff, true_or, or_true, hb.o, hb.m, hb.fr6, hb.zf6, hb.r6.o]
  refine c_Rows_isFull hb.r6 (fun q => ⟨fun w => absurd w (by decide), fun _ => ?_⟩) (fun q => ⟨fun _ => ?_, fun w => absurd rfl w⟩)
  · rw [h.2.1.p.1, h.1.2.2.2.2.2.2.1] at q
    have h8 : a 120 = 8 := by omega
    have e19 : ((19 : Nat) : Int) = 19 := rfl
    refine c_Rows_dropFirst hb.r6 h.1.2.2.2.2.2.2 (by rw [h.2.1.p.1]; omega) (by omega) fun D1 d1 d2 d3 d4 => ?_
    rw [h.2.1.p.1] at d3 d4
    rw [e19] at d4
    have n := fun j p => sShift_n (a := a) (j := j) p
    have wa := sShift_wa h.2.2.1 h8
    have hB : BK M D1 b (sShift a) := by
      refine h.mk' (fun o ho => ?_) (ZB.mk' (h.2.1.l.of (d1 _ (by omega) (by omega)) (d1 _ (by omega) (by omega)) c0.2 fun j hj => n j (by omega)) (h.2.1.g.of (d1 _ (by omega) (by omega)) (d1 _ (by omega) (by omega)) c1.2 fun j hj => n j (by omega)) (h.2.1.w.of (d1 _ (by omega) (by omega)) (d1 _ (by omega) (by omega)) h.2.2.1.n2.2 fun j hj => n j (by omega)) (by rw [d1 _ (by omega) (by omega), n 3 (by omega)]; exact h.2.1.m) (h.2.1.s.of (d1 _ (by omega) (by omega)) (d1 _ (by omega) (by omega)) h.2.2.1.n4.2 fun j hj => n j (by omega)) (h.2.1.n.of (d1 _ (by omega) (by omega)) (d1 _ (by omega) (by omega)) h.2.2.1.n5.2 fun j hj => n j (by omega)) (h.2.1.k.of (d1 _ (by omega) (by omega)) (d1 _ (by omega) (by omega)) h.2.2.1.n6.2 fun j hj => n j (by omega)) ?_) wa (fun o o0 o1 => d1 o (by omega) (by omega))
      · by_cases q : o = b + 19
        · rw [q]; exact ⟨d2 0 (by decide), d2 1 (by decide)⟩
        · rw [d1 o q (by unfold isRw at ho; omega)]; exact ⟨rfl, rfl⟩
      · refine ⟨by rw [d3, sShift_c]; omega, fun u u0 u1 => ?_⟩
        rw [sShift_c] at u1
        rw [n 0 (by omega), n 1 (by omega)]
        have hp := h.2.1.p.2 (u + 1) (by omega) (by omega)
        refine ⟨?_, fun i i0 i1 => ?_, fun k k0 k1 => ?_⟩
        · rw [d4 _ (by omega) (by omega), sShift_u (by omega) (by omega), show u * 19 + 19 = (u + 1) * 19 by omega, show 121 + 19 * u + 19 = 121 + 19 * (u + 1) by omega]; exact hp.1
        · rw [d4 _ (by omega) (by omega), d4 _ (by omega) (by omega), sShift_u (by omega) (by omega), sShift_u (by omega) (by omega), show u * 19 + (1 + i) + 19 = (u + 1) * 19 + (1 + i) by omega, show u * 19 + (7 + i) + 19 = (u + 1) * 19 + (7 + i) by omega, show 128 + 19 * u + i + 19 = 128 + 19 * (u + 1) + i by omega, show 134 + 19 * u + i + 19 = 134 + 19 * (u + 1) + i by omega]; exact hp.2.1 i i0 i1
        · rw [d4 _ (by omega) (by omega), sShift_u (by omega) (by omega), show u * 19 + (13 + k) + 19 = (u + 1) * 19 + (13 + k) by omega, show 122 + 19 * u + k + 19 = 122 + 19 * (u + 1) + k by omega]; exact hp.2.2 k k0 k1
    rw [hB.2.1.m]
    refine main D1 (sShift a) P hB (by rw [sShift_c]; omega) (fun D' f1 f2 => hP D' (Fr.trans (fun o ho => d1 o (by omega) (by omega)) f1) ?_) (zm 0) (zm 0)
    unfold sMinds
    rw [if_pos h8]
    exact f2
  · rw [h.2.1.p.1, h.1.2.2.2.2.2.2.1] at q
    rw [h.2.1.m]
    refine main D a P h (by omega) (fun D' f1 f2 => hP D' f1 ?_) (zm 0) (zm 0)
    unfold sMinds
    rw [if_neg (by omega)]
    exact f2
