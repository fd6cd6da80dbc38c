/-! ===== 34: nights, digest, shy ===== -/
theorem WA.up {M M' : Int} {a : Int → Int} (h : WA M a) (hM : M ≤ M') : WA M' a := by
  refine WA.mk' h.w0 h.w1 h.w2 ⟨h.n3.1, by have := h.n3.2; omega⟩ h.w4 h.w5 h.w6 ⟨h.n7, fun u u0 u1 => ?_⟩
  have := h.w7.2 u u0 u1
  exact ⟨⟨this.1.1, by omega⟩, this.2⟩
theorem CS.spare {D D' s : Mem} {a : Int → Int} (h : CS D s) (hf : Fr 28 55 D D') (hB : BK 20000 D' 28 a) : CS D' s := by
  obtain ⟨⟨h1, ⟨x, h2⟩, h3, h4⟩, ⟨h5, h6⟩, ⟨h7, h8⟩, ⟨h9, h10, h11⟩, h12, h13⟩ := h
  have e : ∀ o, o < 28 ∨ 55 ≤ o → D' o = D o := hf
  refine ⟨⟨h1.out fun o _ _ => e o (by omega), ⟨a, hB⟩, h3.out fun o _ _ => e o (by omega), h4.out fun o _ _ => e o (by omega)⟩, ?_⟩
  rw [e 109 (by omega), e 111 (by omega), e 0 (by omega), e 113 (by omega)]
  exact ⟨⟨h5, h6⟩, ⟨h7, h8⟩, ⟨h9, h10, h11⟩, h12, h13⟩
def nX (x : Int) : Int := (x * 1103515245 + 12345) % 2147483648
def nT (x : Int) : Int := x / 65536 % 6
def nA (a : Int → Int) (x : Int) : Int → Int := if nT x < a 1 then zA a (40 + nT x) (1 - a (40 + nT x)) else a
noncomputable def sNg (x : Int) (a : Int → Int) : Nat → Int × (Int → Int) × Int
  | 0 => (x, a, 0)
  | n + 1 => (nX (sNg x a n).1, sPass (nA (sNg x a n).2.1 (nX (sNg x a n).1)), (sNg x a n).2.2 + sHA (nA (sNg x a n).2.1 (nX (sNg x a n).1)))
theorem nT_b (x : Int) : 0 ≤ nT x ∧ nT x < 6 := by unfold nT; omega
theorem nA_wa {M : Int} {a : Int → Int} (h : WA M a) (x : Int) : WA M (nA a x) := by
  unfold nA
  split
  · rename_i q
    have hb := nT_b x
    exact sTurn_wa h hb.1 q (z01_f (h.w1.2 _ hb.1 q).2.2.2.2)
  · exact h
theorem sHA_b {M : Int} {a : Int → Int} (h : WA M a) : 0 ≤ sHA a ∧ sHA a ≤ 24 := by
  have c1 := h.n1
  have c2 := h.n2
  have zk : ∀ (i : Int) (n : Nat), 0 ≤ zsum n (fun k => sHr a k i) ∧ zsum n (fun k => sHr a k i) ≤ (n : Int) * 1 := fun i n => zsum_b n (fun k _ _ => by rcases sHr_1 (a := a) (k := k) (i := i) with q | q <;> rw [q] <;> omega)
  have zb := zsum_b (f := fun i => zsum (a 2).toNat (fun k => sHr a k i)) (m := 4) (a 1).toNat (fun i _ _ => by have := zk i (a 2).toNat; omega)
  unfold sHA
  omega
theorem sNg_b {x : Int} {a : Int → Int} (hx : 0 ≤ x ∧ x < 2147483648) (h : WA 9999 a) : ∀ n : Nat, (0 ≤ (sNg x a n).1 ∧ (sNg x a n).1 < 2147483648) ∧ WA (9999 + n) (sNg x a n).2.1 ∧ (0 ≤ (sNg x a n).2.2 ∧ (sNg x a n).2.2 ≤ 24 * n)
  | 0 => ⟨hx, by rw [show (9999 : Int) + ((0 : Nat) : Int) = 9999 by omega]; exact h, by show (0 : Int) ≤ 0; omega, by show (0 : Int) ≤ _; omega⟩
  | n + 1 => by
    obtain ⟨-, h2, h3⟩ := sNg_b hx h n
    have h4 := nA_wa h2 (nX (sNg x a n).1)
    refine ⟨?_, ?_, ?_⟩
    · show 0 ≤ nX _ ∧ nX _ < _
      unfold nX
      omega
    · rw [show (9999 : Int) + ((n + 1 : Nat) : Int) = 9999 + n + 1 by omega]
      exact h4.pass (by omega)
    · have := sHA_b h4
      show 0 ≤ (sNg x a n).2.2 + sHA _ ∧ (sNg x a n).2.2 + sHA _ ≤ _
      omega
theorem nX_z {x : Int} (h : 0 ≤ x ∧ x < 2147483648) : z64 (z64 (x * 1103515245) + 12345) % 2147483648 = nX x ∧ 0 ≤ z64 (z64 (x * 1103515245) + 12345) := by
  have e1 : z64 (x * 1103515245) = x * 1103515245 := z64_id ⟨by omega, by omega⟩
  have e2 : z64 (x * 1103515245 + 12345) = x * 1103515245 + 12345 := z64_id ⟨by omega, by omega⟩
  rw [e1, e2]
  exact ⟨rfl, by omega⟩
theorem k28o : z_o zg 28 0 := bk2.o
theorem k28f1 : z_fr zg 28 0 1 32 := bk2.fr1
theorem k28z1 : zf zg 28 1 = 32 := bk2.zf1
theorem k28r1 : z_o zg 32 3 := bk2.r1.o
noncomputable def r_nights (s : Mem) (x n : Int) : Int × Mem := cIf ((0 ≤ x ∧ x ≤ 999999) ∧ 0 ≤ n ∧ n ≤ 60) ((sNg x (s 0) n.toNat).2.2, s) (-2, sRf s 3)
theorem v_nights {n x k : Int} {s : Mem} (hW : WS n s) (hn : n < 1000000) : cOK miX5_nights [zr 0, zi x, zi k] s (r_nights s x k) := by
  intro D P hC hP
  unfold r_nights at hP
  have h := hC.1
  refine e_X5_nights ?_
  simp only [tX5_nights_0, w_ic, w_lc, w_lds, w_ild, w_lld, w_ald, w_ist, w_lst, w_ast, w_iinc, w_iadd, w_isub, w_imul, w_idiv, w_irem, w_iand, w_ior, w_ixor, w_ishl, w_ishr, w_iushr, w_ineg, w_ladd, w_lsub, w_lmul, w_ldiv, w_lrem, w_lcmp, w_i2l, w_l2i, w_dup, w_pop, w_dup2, w_ieq, w_zeq, w_ine, w_zne, w_ilt, w_zlt, w_ige, w_zge, w_igt, w_zgt, w_ile, w_zle, w_cut, w_tsw, zsw, w_iret, w_zret, w_lret, w_vret, w_nret, w_getI, w_getJ, w_getR, w_putI, w_putZ, w_putJ, w_iald, w_zald, w_iast, w_zast, w_alen, w_sI, w_sJ, w_sV, w_vI, w_vJ, w_vV, w_tI, w_mmax, w_mmin, w_mabs, w_lmax, w_acopy, gL, sL, kl_i, kl_l, kl_r, kl_s, kl_m, qI_i, qJ_l, qA_r, qA_s, pI_i, pJ_l, pA_r, pS_s, pM_m, pV_v, c1_i, c1_r, c1_s, c1_m, cS_0, cS_i, cS_l, cS_r, cS_s, cS_m, pN, z_rc_r, zE1, zE2, zE3, true_and, and_true, Nat.zero_add, Nat.reduceAdd, Nat.reduceLeDiff, true_or, or_true, q0, qp4, qp5, qp8, qp9, qf0, qz0, qf1, qz1, qf2, qz2, qf3, qz3, qf6, qz6, qf7, qz7, qf10, qz10, qf11, qz11, qf12, qz12, qf13, qz13, qf14, qz14, k1o, k1m, k1f0, k1z0, k1f1, k1z1, k1f2, k1z2, k1f3, k1z3, k1f4, k1z4, k1f5, k1z5, k1f6, k1z6, k1f7, k1z7, k1r0, k1r1, k1r2, k1r3, k1r4, k1r5, k1r6, k1w, k109, k109a, k109b, k109c, k109d, k109e, k109f, k109g, kr110, kr112, kr114, kr116, kr118, kr120, kr122, k28o, k28f1, k28z1, k28r1]
  refine c_within (fun c0 c1 => ⟨fun w => absurd w (by decide), fun _ => ?_⟩) (fun q => ⟨fun _ => ?_, fun w => absurd rfl w⟩)
  · refine c_within (fun c2 c3 => ⟨fun _ => ?_, fun w => absurd (by decide) w⟩) (fun q => ⟨fun w => absurd rfl w, fun _ => ?_⟩)
    · rw [cIf_t ⟨⟨c0, c1⟩, c2, c3⟩] at hP
      have hb := fun m => sNg_b (x := x) (a := s 0) ⟨c0, by omega⟩ h.1.2.2.1 m
      have loop : ∀ (r m : Nat) (v : AV) (D2 : Mem), k.toNat - m = r → m ≤ k.toNat → Fr 28 55 D D2 → BK (9999 + m) D2 28 (sNg x (s 0) m).2.1 → zW miX5_nights P 46 [zr 0, zi x, zi k, zl (sNg x (s 0) m).1, zm 1, zi (sNg x (s 0) m).2.2, zi m, v] D2 := by
        intro r
        induction r with
        | zero =>
          intro m v D2 hr hm q1 q2
          refine sX5_nights_46 _ _ _ _ _ ?_
          simp only [tX5_nights_46, w_ic, w_lc, w_lds, w_ild, w_lld, w_ald, w_ist, w_lst, w_ast, w_iinc, w_iadd, w_isub, w_imul, w_idiv, w_irem, w_iand, w_ior, w_ixor, w_ishl, w_ishr, w_iushr, w_ineg, w_ladd, w_lsub, w_lmul, w_ldiv, w_lrem, w_lcmp, w_i2l, w_l2i, w_dup, w_pop, w_dup2, w_ieq, w_zeq, w_ine, w_zne, w_ilt, w_zlt, w_ige, w_zge, w_igt, w_zgt, w_ile, w_zle, w_cut, w_tsw, zsw, w_iret, w_zret, w_lret, w_vret, w_nret, w_getI, w_getJ, w_getR, w_putI, w_putZ, w_putJ, w_iald, w_zald, w_iast, w_zast, w_alen, w_sI, w_sJ, w_sV, w_vI, w_vJ, w_vV, w_tI, w_mmax, w_mmin, w_mabs, w_lmax, w_acopy, gL, sL, kl_i, kl_l, kl_r, kl_s, kl_m, qI_i, qJ_l, qA_r, qA_s, pI_i, pJ_l, pA_r, pS_s, pM_m, pV_v, c1_i, c1_r, c1_s, c1_m, cS_0, cS_i, cS_l, cS_r, cS_s, cS_m, pN, z_rc_r, zE1, zE2, zE3, true_and, and_true, Nat.zero_add, Nat.reduceAdd, Nat.reduceLeDiff, true_or, or_true, q0, qp4, qp5, qp8, qp9, qf0, qz0, qf1, qz1, qf2, qz2, qf3, qz3, qf6, qz6, qf7, qz7, qf10, qz10, qf11, qz11, qf12, qz12, qf13, qz13, qf14, qz14, k1o, k1m, k1f0, k1z0, k1f1, k1z1, k1f2, k1z2, k1f3, k1z3, k1f4, k1z4, k1f5, k1z5, k1f6, k1z6, k1f7, k1z7, k1r0, k1r1, k1r2, k1r3, k1r4, k1r5, k1r6, k1w, k109, k109a, k109b, k109c, k109d, k109e, k109f, k109g, kr110, kr112, kr114, kr116, kr118, kr120, kr122, k28o, k28f1, k28z1, k28r1]
          refine ⟨fun _ => ?_, fun q => absurd (by omega) q⟩
          rw [show m = k.toNat by omega] at q2 ⊢
          exact hP D2 (q1.wide (by omega) (by omega)) (hC.spare q1 (q2.mono (q2.2.2.1.up (by omega))))
        | succ r ih =>
          intro m v D2 hr hm q1 q2
          obtain ⟨b1, b2, b3⟩ := hb m
          obtain ⟨e1, e2⟩ := nX_z b1
          have hx1 : 0 ≤ nX (sNg x (s 0) m).1 ∧ nX (sNg x (s 0) m).1 < 2147483648 := by unfold nX; omega
          have ht := nT_b (nX (sNg x (s 0) m).1)
          have go : ∀ D3 : Mem, Fr 28 55 D D3 → BK (9999 + m) D3 28 (nA (sNg x (s 0) m).2.1 (nX (sNg x (s 0) m).1)) → zC miX0_heardInAll [zr 28] D3 (fun y D' => zR ((sNg x (s 0) m).2.2 + y) ∧ zC miX0_pass [zr 28, zi 1] D' (fun _ D'' => zR (m + 1) ∧ zW miX5_nights P 46 [zr 0, zi x, zi k, zl (nX (sNg x (s 0) m).1), zm 1, zi ((sNg x (s 0) m).2.2 + y), zi (m + 1), zi (nT (nX (sNg x (s 0) m).1))] D'')) := by
            intro D3 g1 g2
            have hs := sHA_b g2.2.2.1
            refine c_heardInAll bk2 g2 fun D4 d1 d2 => ⟨⟨by omega, by omega⟩, ?_⟩
            refine c_pass bk2 d2 (by omega) (by omega) (by omega) fun D5 d3 d4 => ⟨⟨by omega, by omega⟩, ?_⟩
            refine ih (m + 1) _ D5 (by omega) (by omega) ((g1.trans (d1.wide (by omega) (by omega))).trans (d3.wide (by omega) (by omega))) ?_
            rw [show (9999 : Int) + ((m + 1 : Nat) : Int) = 9999 + m + ((1 : Int).toNat : Int) by omega]
            exact d4
          refine sX5_nights_46 _ _ _ _ _ ?_
          simp only [tX5_nights_46, w_ic, w_lc, w_lds, w_ild, w_lld, w_ald, w_ist, w_lst, w_ast, w_iinc, w_iadd, w_isub, w_imul, w_idiv, w_irem, w_iand, w_ior, w_ixor, w_ishl, w_ishr, w_iushr, w_ineg, w_ladd, w_lsub, w_lmul, w_ldiv, w_lrem, w_lcmp, w_i2l, w_l2i, w_dup, w_pop, w_dup2, w_ieq, w_zeq, w_ine, w_zne, w_ilt, w_zlt, w_ige, w_zge, w_igt, w_zgt, w_ile, w_zle, w_cut, w_tsw, zsw, w_iret, w_zret, w_lret, w_vret, w_nret, w_getI, w_getJ, w_getR, w_putI, w_putZ, w_putJ, w_iald, w_zald, w_iast, w_zast, w_alen, w_sI, w_sJ, w_sV, w_vI, w_vJ, w_vV, w_tI, w_mmax, w_mmin, w_mabs, w_lmax, w_acopy, gL, sL, kl_i, kl_l, kl_r, kl_s, kl_m, qI_i, qJ_l, qA_r, qA_s, pI_i, pJ_l, pA_r, pS_s, pM_m, pV_v, c1_i, c1_r, c1_s, c1_m, cS_0, cS_i, cS_l, cS_r, cS_s, cS_m, pN, z_rc_r, zE1, zE2, zE3, true_and, and_true, Nat.zero_add, Nat.reduceAdd, Nat.reduceLeDiff, true_or, or_true, q0, qp4, qp5, qp8, qp9, qf0, qz0, qf1, qz1, qf2, qz2, qf3, qz3, qf6, qz6, qf7, qz7, qf10, qz10, qf11, qz11, qf12, qz12, qf13, qz13, qf14, qz14, k1o, k1m, k1f0, k1z0, k1f1, k1z1, k1f2, k1z2, k1f3, k1z3, k1f4, k1z4, k1f5, k1z5, k1f6, k1z6, k1f7, k1z7, k1r0, k1r1, k1r2, k1r3, k1r4, k1r5, k1r6, k1w, k109, k109a, k109b, k109c, k109d, k109e, k109f, k109g, kr110, kr112, kr114, kr116, kr118, kr120, kr122, k28o, k28f1, k28z1, k28r1]
          rw [e1]
          have e3 : nX (sNg x (s 0) m).1 / 65536 % 6 = nT (nX (sNg x (s 0) m).1) := rfl
          rw [e3]
          refine ⟨fun q => absurd q (by omega), fun _ => ⟨⟨e2, by decide⟩, ⟨hx1.1, by decide⟩, ⟨Int.ediv_nonneg hx1.1 (by decide), by decide⟩, ⟨by omega, by omega⟩, ?_⟩⟩
          refine c_Rows_has bk2.r1 (fun c4 c5 => ⟨fun w => absurd w (by decide), fun _ => ?_⟩) (fun q => ⟨fun _ => ?_, fun w => absurd rfl w⟩)
          · rw [q2.2.1.g.1] at c5
            refine c_turnGoer bk2 q2 c4 c5 fun D3 d1 d2 => ?_
            refine go D3 (q1.trans (d1.wide (by omega) (by omega))) ?_
            unfold nA
            rw [if_pos c5]
            exact d2
          · rw [q2.2.1.g.1] at q
            refine go D2 q1 ?_
            unfold nA
            rw [if_neg (by omega)]
            exact q2
      refine c_take bk2 bk1 (by decide) h.2.1.choose_spec h.1 fun D1 d1 d2 => ?_
      refine loop _ 0 _ D1 rfl (by omega) (d1.wide (by omega) (by omega)) ?_
      rw [show (9999 : Int) + ((0 : Nat) : Int) = 9999 by omega]
      exact d2
    · rw [cIf_f (fun w => q w.2)] at hP
      exact c_bad hC hW hn hP
  · rw [cIf_f (fun w => q w.1)] at hP
    exact c_bad hC hW hn hP
