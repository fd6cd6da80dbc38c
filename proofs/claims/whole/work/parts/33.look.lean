/-! ===== 33: look, ask ===== -/
def zbt (x k : Int) : Int := x / 2 ^ k.toNat % 2
theorem zbt_e {x k : Int} (x0 : 0 ≤ x) (x1 : x < 2147483648) (k0 : 0 ≤ k) (k1 : k < 32) : bA (bR x k) 1 = zbt x k := by
  obtain ⟨n, rfl⟩ := Int.eq_ofNat_of_zero_le k0
  have hp : (0 : Int) < 2 ^ n := Int.pow_pos (by decide)
  rw [bR_n ⟨by omega, by omega⟩ (by omega)]
  have h0 : 0 ≤ x / 2 ^ n := Int.ediv_nonneg x0 (by omega)
  have h1 : x / 2 ^ n ≤ x := Int.ediv_le_self _ x0
  rw [bA1 h0 (by omega)]
  unfold zbt
  rw [Int.toNat_natCast]
theorem zbt_1 {x k : Int} : zbt x k = 0 ∨ zbt x k = 1 := by
  unfold zbt
  omega
theorem zMx_0 {f : Int → Int} : ∀ n, 0 ≤ zMx n f
  | 0 => Int.le_refl _
  | n + 1 => by
    have := zMx_0 (f := f) n
    show 0 ≤ max (zMx n f) (f n)
    omega
theorem zMx_ge {f : Int → Int} : ∀ {n : Nat} {k : Int}, 0 ≤ k → k < n → f k ≤ zMx n f
  | 0, k, h0, h1 => by omega
  | n + 1, k, h0, h1 => by
    show f k ≤ max (zMx n f) (f n)
    by_cases e : k = n
    · rw [e]; omega
    · have := zMx_ge (f := f) (n := n) h0 (by omega)
      omega
theorem zMx_le {f : Int → Int} {m : Int} (hm : 0 ≤ m) : ∀ {n : Nat}, (∀ k : Int, 0 ≤ k → k < n → f k ≤ m) → zMx n f ≤ m
  | 0, _ => hm
  | n + 1, h => by
    have h1 := zMx_le (f := f) hm (n := n) (fun k k0 k1 => h k k0 (by omega))
    have h2 := h n (by omega) (by omega)
    show max (zMx n f) (f n) ≤ m
    omega
theorem zMx_eq {f f' : Int → Int} : ∀ n : Nat, (∀ k : Int, 0 ≤ k → k < n → f k = f' k) → zMx n f = zMx n f'
  | 0, _ => rfl
  | n + 1, h => by
    show max (zMx n f) (f n) = max (zMx n f') (f' n)
    rw [zMx_eq n (fun k k0 k1 => h k k0 (by omega)), h n (by omega) (by omega)]
theorem zsum_add {f g : Int → Int} : ∀ n : Nat, zsum n f + zsum n g = zsum n (fun k => f k + g k)
  | 0 => rfl
  | n + 1 => by
    have ih := zsum_add (f := f) (g := g) n
    show zsum n f + f n + (zsum n g + g n) = zsum n (fun k => f k + g k) + (f n + g n)
    omega
/-- the greatest part of a set whose numbers are alike -/
def sGr (b : Int) (v : Int → Int) : Int := zMx 6 (fun k => zsum 6 (fun o => if zbt b k = 1 ∧ zbt b o = 1 ∧ v o = v k then 1 else 0))
theorem sGr_b (b : Int) (v : Int → Int) : 0 ≤ sGr b v ∧ sGr b v ≤ 6 := by
  refine ⟨zMx_0 _, zMx_le (by decide) fun k _ _ => ?_⟩
  have := zsum_b (f := fun o => if zbt b k = 1 ∧ zbt b o = 1 ∧ v o = v k then (1 : Int) else 0) (m := 1) 6 (fun k _ _ => by split <;> omega)
  omega
theorem sGr_two (b : Int) (h : Int → Prop) [DecidablePred h] : sGr b (fun o => if h o then 1 else 0) = max (zsum 6 (fun o => if zbt b o = 1 ∧ h o then 1 else 0)) (zsum 6 (fun o => zbt b o) - zsum 6 (fun o => if zbt b o = 1 ∧ h o then 1 else 0)) := by
  have e1 : zsum 6 (fun o => zbt b o) - zsum 6 (fun o => if zbt b o = 1 ∧ h o then 1 else 0) = zsum 6 (fun o => if zbt b o = 1 ∧ ¬ h o then 1 else 0) := by
    have := zsum_add (f := fun o => if zbt b o = 1 ∧ h o then (1 : Int) else 0) (g := fun o => if zbt b o = 1 ∧ ¬ h o then (1 : Int) else 0) 6
    have e2 : zsum 6 (fun k => (if zbt b k = 1 ∧ h k then (1 : Int) else 0) + (if zbt b k = 1 ∧ ¬ h k then (1 : Int) else 0)) = zsum 6 (fun o => zbt b o) := by
      refine zsum_eq 6 fun k _ _ => ?_
      rcases zbt_1 (x := b) (k := k) with q | q
      · rw [q, if_neg (by omega), if_neg (by omega)]; rfl
      · rw [q]
        by_cases hk : h k
        · rw [if_pos ⟨rfl, hk⟩, if_neg (fun w => w.2 hk)]; rfl
        · rw [if_neg (fun w => hk w.2), if_pos ⟨rfl, hk⟩]; rfl
    rw [e2] at this
    omega
  rw [e1]
  have b1 := (zsum_b (f := fun o => if zbt b o = 1 ∧ h o then (1 : Int) else 0) (m := 1) 6 (fun k _ _ => by split <;> omega)).1
  have b2 := (zsum_b (f := fun o => if zbt b o = 1 ∧ ¬ h o then (1 : Int) else 0) (m := 1) 6 (fun k _ _ => by split <;> omega)).1
  have val : ∀ k : Int, zbt b k = 1 → (h k → zsum 6 (fun o => if zbt b k = 1 ∧ zbt b o = 1 ∧ (if h o then (1 : Int) else 0) = (if h k then 1 else 0) then (1 : Int) else 0) = zsum 6 (fun o => if zbt b o = 1 ∧ h o then 1 else 0)) ∧ (¬ h k → zsum 6 (fun o => if zbt b k = 1 ∧ zbt b o = 1 ∧ (if h o then (1 : Int) else 0) = (if h k then 1 else 0) then (1 : Int) else 0) = zsum 6 (fun o => if zbt b o = 1 ∧ ¬ h o then 1 else 0)) := by
    intro k hk
    refine ⟨fun q => zsum_eq 6 fun o _ _ => ?_, fun q => zsum_eq 6 fun o _ _ => ?_⟩
    · by_cases ho : h o
      · simp [hk, q, ho]
      · simp [hk, q, ho]
    · by_cases ho : h o
      · simp [hk, q, ho]
      · simp [hk, q, ho]
  apply Int.le_antisymm
  · refine zMx_le (by omega) fun k _ _ => ?_
    dsimp only
    rcases zbt_1 (x := b) (k := k) with q | q
    · rw [zsum_eq (f' := fun _ => 0) 6 (fun o _ _ => by rw [if_neg (by omega)])]
      show (0 : Int) ≤ _
      omega
    · by_cases hk : h k
      · rw [(val k q).1 hk]; omega
      · rw [(val k q).2 hk]; omega
  · have up : ∀ (p : Int → Prop) [DecidablePred p], 0 < zsum 6 (fun o => if zbt b o = 1 ∧ p o then (1 : Int) else 0) → ∃ k : Int, 0 ≤ k ∧ k < 6 ∧ zbt b k = 1 ∧ p k := by
      intro p _ hp
      apply Classical.byContradiction
      intro hno
      have := (zsum_0 (f := fun o => if zbt b o = 1 ∧ p o then (1 : Int) else 0) (fun k => by split <;> omega) 6).mpr (fun k k0 k1 => if_neg fun w => hno ⟨k, k0, by omega, w⟩)
      omega
    have g0 : 0 ≤ sGr b (fun o => if h o then 1 else 0) := zMx_0 _
    have g1 : zsum 6 (fun o => if zbt b o = 1 ∧ h o then (1 : Int) else 0) ≤ sGr b (fun o => if h o then 1 else 0) := by
      by_cases q : 0 < zsum 6 (fun o => if zbt b o = 1 ∧ h o then (1 : Int) else 0)
      · obtain ⟨k, k0, k1, k2, k3⟩ := up h q
        rw [← (val k k2).1 k3]
        exact zMx_ge (f := fun k => zsum 6 (fun o => if zbt b k = 1 ∧ zbt b o = 1 ∧ (if h o then (1 : Int) else 0) = (if h k then 1 else 0) then (1 : Int) else 0)) k0 (by omega)
      · omega
    have g2 : zsum 6 (fun o => if zbt b o = 1 ∧ ¬ h o then (1 : Int) else 0) ≤ sGr b (fun o => if h o then 1 else 0) := by
      by_cases q : 0 < zsum 6 (fun o => if zbt b o = 1 ∧ ¬ h o then (1 : Int) else 0)
      · obtain ⟨k, k0, k1, k2, k3⟩ := up (fun o => ¬ h o) q
        rw [← (val k k2).2 k3]
        exact zMx_ge (f := fun k => zsum 6 (fun o => if zbt b k = 1 ∧ zbt b o = 1 ∧ (if h o then (1 : Int) else 0) = (if h k then 1 else 0) then (1 : Int) else 0)) k0 (by omega)
      · omega
    omega
/-- the first with the least; c says what stands for it -/
def sArg (c g : Int → Int) : Nat → Int × Int
  | 0 => (-1, 7)
  | n + 1 => if g n < (sArg c g n).2 then (c n, g n) else sArg c g n
theorem sArg_s {c g : Int → Int} {i : Int} (h : 0 ≤ i) : sArg c g (i + 1).toNat = if g i < (sArg c g i.toNat).2 then (c i, g i) else sArg c g i.toNat := by
  rw [show (i + 1).toNat = i.toNat + 1 by omega]
  show (if g (i.toNat : Int) < (sArg c g i.toNat).2 then (c (i.toNat : Int), g (i.toNat : Int)) else sArg c g i.toNat) = _
  rw [Int.toNat_of_nonneg h]
theorem sGK_b {a : Int → Int} {i : Int} : 0 ≤ sGK a i ∧ sGK a i < 64 := zbits_b 6
theorem sWK_b {a : Int → Int} {i : Int} : 0 ≤ sWK a i ∧ sWK a i < 64 := zbits_b 6
theorem c_mostAlike {b f m : Int} {D : Mem} {P : Int → Mem → Prop} (b0 : 0 ≤ b) (b1 : b < 64) (f0 : 0 ≤ f) (f1 : f ≤ 4) (m0 : 0 ≤ m) (hP : P (sGr b (fun o => zLo o f m)) D) : zC miX5_mostAlike [zi b, zi f, zi m] D P := by
  have loop : ∀ (r : Nat) (k : Int) (v5 v6 : AV), (6 - k).toNat = r → 0 ≤ k → k ≤ 6 → zW miX5_mostAlike P 5 [zi b, zi f, zi m, zi (zMx k.toNat (fun k => zsum 6 (fun o => if zbt b k = 1 ∧ zbt b o = 1 ∧ zLo o f m = zLo k f m then 1 else 0))), zi k, v5, v6] D := by
    intro r
    induction r with
    | zero =>
      intro k v5 v6 hr k0 k1
      refine sX5_mostAlike_5 _ _ _ _ _ ?_
      simp only [tX5_mostAlike_5, w_ic, w_lc, w_lds, w_ild, w_lld, w_ald, w_ist, w_lst, w_ast, w_iinc, w_iadd, w_isub, w_imul, w_idiv, w_irem, w_iand, w_ior, w_ixor, w_ishl, w_ishr, w_iushr, w_ineg, w_ladd, w_lsub, w_lmul, w_ldiv, w_lrem, w_lcmp, w_i2l, w_l2i, w_dup, w_pop, w_dup2, w_ieq, w_zeq, w_ine, w_zne, w_ilt, w_zlt, w_ige, w_zge, w_igt, w_zgt, w_ile, w_zle, w_cut, w_tsw, zsw, w_iret, w_zret, w_lret, w_vret, w_nret, w_getI, w_getJ, w_getR, w_putI, w_putZ, w_putJ, w_iald, w_zald, w_iast, w_zast, w_alen, w_sI, w_sJ, w_sV, w_vI, w_vJ, w_vV, w_tI, w_mmax, w_mmin, w_mabs, w_lmax, w_acopy, gL, sL, kl_i, kl_l, kl_r, kl_s, kl_m, qI_i, qJ_l, qA_r, qA_s, pI_i, pJ_l, pA_r, pS_s, pM_m, pV_v, c1_i, c1_r, c1_s, c1_m, cS_0, cS_i, cS_l, cS_r, cS_s, cS_m, pN, z_rc_r, zE1, zE2, zE3, true_and, and_true, Nat.zero_add, Nat.reduceAdd, Nat.reduceLeDiff, true_or, or_true]
      refine ⟨fun _ => ?_, fun q => absurd (by omega) q⟩
      rw [show k = 6 by omega]
      exact hP
    | succ r ih =>
      intro k v5 v6 hr k0 k1
      have hm := zMx_0 (f := fun k => zsum 6 (fun o => if zbt b k = 1 ∧ zbt b o = 1 ∧ zLo o f m = zLo k f m then (1 : Int) else 0)) k.toNat
      have nx := fun v5 v6 => ih (k + 1) v5 v6 (by omega) (by omega) (by omega)
      rw [zMx_s k0] at nx
      refine sX5_mostAlike_5 _ _ _ _ _ ?_
      simp only [tX5_mostAlike_5, w_ic, w_lc, w_lds, w_ild, w_lld, w_ald, w_ist, w_lst, w_ast, w_iinc, w_iadd, w_isub, w_imul, w_idiv, w_irem, w_iand, w_ior, w_ixor, w_ishl, w_ishr, w_iushr, w_ineg, w_ladd, w_lsub, w_lmul, w_ldiv, w_lrem, w_lcmp, w_i2l, w_l2i, w_dup, w_pop, w_dup2, w_ieq, w_zeq, w_ine, w_zne, w_ilt, w_zlt, w_ige, w_zge, w_igt, w_zgt, w_ile, w_zle, w_cut, w_tsw, zsw, w_iret, w_zret, w_lret, w_vret, w_nret, w_getI, w_getJ, w_getR, w_putI, w_putZ, w_putJ, w_iald, w_zald, w_iast, w_zast, w_alen, w_sI, w_sJ, w_sV, w_vI, w_vJ, w_vV, w_tI, w_mmax, w_mmin, w_mabs, w_lmax, w_acopy, gL, sL, kl_i, kl_l, kl_r, kl_s, kl_m, qI_i, qJ_l, qA_r, qA_s, pI_i, pJ_l, pA_r, pS_s, pM_m, pV_v, c1_i, c1_r, c1_s, c1_m, cS_0, cS_i, cS_l, cS_r, cS_s, cS_m, pN, z_rc_r, zE1, zE2, zE3, true_and, and_true, Nat.zero_add, Nat.reduceAdd, Nat.reduceLeDiff, true_or, or_true]
      rw [zbt_e b0 (by omega) k0 (by omega)]
      refine ⟨fun q => absurd q (by omega), fun _ => ⟨fun q => ?_, fun q => ⟨⟨by omega, by omega⟩, ?_⟩⟩⟩
      · have hb1 : zbt b k = 1 := by rcases zbt_1 (x := b) (k := k) with e | e <;> omega
        have inner : ∀ (s : Nat) (o : Int), (6 - o).toNat = s → 0 ≤ o → o ≤ 6 → zW miX5_mostAlike P 30 [zi b, zi f, zi m, zi (zMx k.toNat (fun k => zsum 6 (fun o => if zbt b k = 1 ∧ zbt b o = 1 ∧ zLo o f m = zLo k f m then 1 else 0))), zi k, zi (zsum o.toNat (fun o => if zbt b k = 1 ∧ zbt b o = 1 ∧ zLo o f m = zLo k f m then 1 else 0)), zi o] D := by
          intro s
          induction s with
          | zero =>
            intro o hs o0 o1
            refine sX5_mostAlike_30 _ _ _ _ _ ?_
            simp only [tX5_mostAlike_30, w_ic, w_lc, w_lds, w_ild, w_lld, w_ald, w_ist, w_lst, w_ast, w_iinc, w_iadd, w_isub, w_imul, w_idiv, w_irem, w_iand, w_ior, w_ixor, w_ishl, w_ishr, w_iushr, w_ineg, w_ladd, w_lsub, w_lmul, w_ldiv, w_lrem, w_lcmp, w_i2l, w_l2i, w_dup, w_pop, w_dup2, w_ieq, w_zeq, w_ine, w_zne, w_ilt, w_zlt, w_ige, w_zge, w_igt, w_zgt, w_ile, w_zle, w_cut, w_tsw, zsw, w_iret, w_zret, w_lret, w_vret, w_nret, w_getI, w_getJ, w_getR, w_putI, w_putZ, w_putJ, w_iald, w_zald, w_iast, w_zast, w_alen, w_sI, w_sJ, w_sV, w_vI, w_vJ, w_vV, w_tI, w_mmax, w_mmin, w_mabs, w_lmax, w_acopy, gL, sL, kl_i, kl_l, kl_r, kl_s, kl_m, qI_i, qJ_l, qA_r, qA_s, pI_i, pJ_l, pA_r, pS_s, pM_m, pV_v, c1_i, c1_r, c1_s, c1_m, cS_0, cS_i, cS_l, cS_r, cS_s, cS_m, pN, z_rc_r, zE1, zE2, zE3, true_and, and_true, Nat.zero_add, Nat.reduceAdd, Nat.reduceLeDiff, true_or, or_true]
            refine ⟨fun _ => ⟨⟨by omega, by omega⟩, ?_⟩, fun q => absurd (by omega) q⟩
            rw [show o = 6 by omega]
            exact nx _ _
          | succ s ihs =>
            intro o hs o0 o1
            have zb := zsum_b (f := fun o => if zbt b k = 1 ∧ zbt b o = 1 ∧ zLo o f m = zLo k f m then (1 : Int) else 0) (m := 1) o.toNat (fun k _ _ => by split <;> omega)
            have ns := ihs (o + 1) (by omega) (by omega) (by omega)
            rw [zsum_s o0] at ns
            have no : ¬ (zbt b k = 1 ∧ zbt b o = 1 ∧ zLo o f m = zLo k f m) → zW miX5_mostAlike P 30 [zi b, zi f, zi m, zi (zMx k.toNat (fun k => zsum 6 (fun o => if zbt b k = 1 ∧ zbt b o = 1 ∧ zLo o f m = zLo k f m then 1 else 0))), zi k, zi (zsum o.toNat (fun o => if zbt b k = 1 ∧ zbt b o = 1 ∧ zLo o f m = zLo k f m then 1 else 0)), zi (o + 1)] D := by
              intro q
              rw [if_neg q, Int.add_zero] at ns
              exact ns
            refine sX5_mostAlike_30 _ _ _ _ _ ?_
            simp only [tX5_mostAlike_30, w_ic, w_lc, w_lds, w_ild, w_lld, w_ald, w_ist, w_lst, w_ast, w_iinc, w_iadd, w_isub, w_imul, w_idiv, w_irem, w_iand, w_ior, w_ixor, w_ishl, w_ishr, w_iushr, w_ineg, w_ladd, w_lsub, w_lmul, w_ldiv, w_lrem, w_lcmp, w_i2l, w_l2i, w_dup, w_pop, w_dup2, w_ieq, w_zeq, w_ine, w_zne, w_ilt, w_zlt, w_ige, w_zge, w_igt, w_zgt, w_ile, w_zle, w_cut, w_tsw, zsw, w_iret, w_zret, w_lret, w_vret, w_nret, w_getI, w_getJ, w_getR, w_putI, w_putZ, w_putJ, w_iald, w_zald, w_iast, w_zast, w_alen, w_sI, w_sJ, w_sV, w_vI, w_vJ, w_vV, w_tI, w_mmax, w_mmin, w_mabs, w_lmax, w_acopy, gL, sL, kl_i, kl_l, kl_r, kl_s, kl_m, qI_i, qJ_l, qA_r, qA_s, pI_i, pJ_l, pA_r, pS_s, pM_m, pV_v, c1_i, c1_r, c1_s, c1_m, cS_0, cS_i, cS_l, cS_r, cS_s, cS_m, pN, z_rc_r, zE1, zE2, zE3, true_and, and_true, Nat.zero_add, Nat.reduceAdd, Nat.reduceLeDiff, true_or, or_true]
            rw [zbt_e b0 (by omega) o0 (by omega)]
            refine ⟨fun q => absurd q (by omega), fun _ => ⟨fun q => ⟨⟨by omega, by omega⟩, no fun w => q w.2.1⟩, fun q => ?_⟩⟩
            refine c_loudness o0 (by omega) f0 (by omega) m0 ?_
            refine c_loudness k0 (by omega) f0 (by omega) m0 ?_
            refine ⟨fun q2 => ⟨⟨by omega, by omega⟩, no fun w => q2 w.2.2⟩, fun q2 => ⟨⟨by omega, by omega⟩, ⟨by omega, by omega⟩, ?_⟩⟩
            rw [if_pos ⟨hb1, Decidable.not_not.mp q, Decidable.not_not.mp q2⟩] at ns
            exact ns
        exact inner _ 0 rfl (by omega) (by omega)
      · have e0 : zsum 6 (fun o => if zbt b k = 1 ∧ zbt b o = 1 ∧ zLo o f m = zLo k f m then (1 : Int) else 0) = 0 := by
          rw [zsum_eq (f' := fun _ => 0) 6 (fun o _ _ => by rw [if_neg (by omega)])]
          rfl
        rw [e0, show max (zMx k.toNat (fun k => zsum 6 (fun o => if zbt b k = 1 ∧ zbt b o = 1 ∧ zLo o f m = zLo k f m then (1 : Int) else 0))) 0 = zMx k.toNat (fun k => zsum 6 (fun o => if zbt b k = 1 ∧ zbt b o = 1 ∧ zLo o f m = zLo k f m then (1 : Int) else 0)) by omega] at nx
        exact nx _ _
  refine e_X5_mostAlike ?_
  simp only [tX5_mostAlike_0, w_ic, w_lc, w_lds, w_ild, w_lld, w_ald, w_ist, w_lst, w_ast, w_iinc, w_iadd, w_isub, w_imul, w_idiv, w_irem, w_iand, w_ior, w_ixor, w_ishl, w_ishr, w_iushr, w_ineg, w_ladd, w_lsub, w_lmul, w_ldiv, w_lrem, w_lcmp, w_i2l, w_l2i, w_dup, w_pop, w_dup2, w_ieq, w_zeq, w_ine, w_zne, w_ilt, w_zlt, w_ige, w_zge, w_igt, w_zgt, w_ile, w_zle, w_cut, w_tsw, zsw, w_iret, w_zret, w_lret, w_vret, w_nret, w_getI, w_getJ, w_getR, w_putI, w_putZ, w_putJ, w_iald, w_zald, w_iast, w_zast, w_alen, w_sI, w_sJ, w_sV, w_vI, w_vJ, w_vV, w_tI, w_mmax, w_mmin, w_mabs, w_lmax, w_acopy, gL, sL, kl_i, kl_l, kl_r, kl_s, kl_m, qI_i, qJ_l, qA_r, qA_s, pI_i, pJ_l, pA_r, pS_s, pM_m, pV_v, c1_i, c1_r, c1_s, c1_m, cS_0, cS_i, cS_l, cS_r, cS_s, cS_m, pN, z_rc_r, zE1, zE2, zE3, true_and, and_true, Nat.zero_add, Nat.reduceAdd, Nat.reduceLeDiff, true_or, or_true]
  exact loop _ 0 _ _ rfl (by omega) (by omega)
noncomputable def sLk (b : Int) : Int := (sArg (fun t => 10 * (t / 2) + t % 2) (fun t => sGr b (fun o => zLo o (t / 2) (t % 2))) 10).1
noncomputable def r_look (s : Mem) (i : Int) : Int × Mem := cIf (0 ≤ i ∧ i < s 0 1) (cIf (sGK (s 0) i = 0) (-1, s) (sLk (sGK (s 0) i), s)) (-2, sRf s 3)
theorem v_look {n i : Int} {s : Mem} (hW : WS n s) (hn : n < 1000000) : cOK miX5_look [zr 0, zi i] s (r_look s i) := by
  intro D P hC hP
  have h := hC.1.1
  unfold r_look at hP
  refine e_X5_look ?_
  simp only [tX5_look_0, w_ic, w_lc, w_lds, w_ild, w_lld, w_ald, w_ist, w_lst, w_ast, w_iinc, w_iadd, w_isub, w_imul, w_idiv, w_irem, w_iand, w_ior, w_ixor, w_ishl, w_ishr, w_iushr, w_ineg, w_ladd, w_lsub, w_lmul, w_ldiv, w_lrem, w_lcmp, w_i2l, w_l2i, w_dup, w_pop, w_dup2, w_ieq, w_zeq, w_ine, w_zne, w_ilt, w_zlt, w_ige, w_zge, w_igt, w_zgt, w_ile, w_zle, w_cut, w_tsw, zsw, w_iret, w_zret, w_lret, w_vret, w_nret, w_getI, w_getJ, w_getR, w_putI, w_putZ, w_putJ, w_iald, w_zald, w_iast, w_zast, w_alen, w_sI, w_sJ, w_sV, w_vI, w_vJ, w_vV, w_tI, w_mmax, w_mmin, w_mabs, w_lmax, w_acopy, gL, sL, kl_i, kl_l, kl_r, kl_s, kl_m, qI_i, qJ_l, qA_r, qA_s, pI_i, pJ_l, pA_r, pS_s, pM_m, pV_v, c1_i, c1_r, c1_s, c1_m, cS_0, cS_i, cS_l, cS_r, cS_s, cS_m, pN, z_rc_r, zE1, zE2, zE3, true_and, and_true, Nat.zero_add, Nat.reduceAdd, Nat.reduceLeDiff, true_or, or_true, q0, qp4, qp5, qp8, qp9, qf0, qz0, qf1, qz1, qf2, qz2, qf3, qz3, qf6, qz6, qf7, qz7, qf10, qz10, qf11, qz11, qf12, qz12, qf13, qz13, qf14, qz14, k1o, k1m, k1f0, k1z0, k1f1, k1z1, k1f2, k1z2, k1f3, k1z3, k1f4, k1z4, k1f5, k1z5, k1f6, k1z6, k1f7, k1z7, k1r0, k1r1, k1r2, k1r3, k1r4, k1r5, k1r6, k1w, k109, k109a, k109b, k109c, k109d, k109e, k109f, k109g, kr110, kr112, kr114, kr116, kr118, kr120, kr122]
  refine c_Rows_has bk1.r1 (fun c0 c1 => ⟨fun _ => ?_, fun w => absurd (by decide) w⟩) (fun q => ⟨fun w => absurd rfl w, fun _ => ?_⟩)
  · rw [h.2.1.1.2.1] at c1
    rw [cIf_t ⟨c0, c1⟩] at hP
    refine c_goerKinds hC ⟨fun q => ?_, fun q => ?_⟩
    · rw [cIf_f q] at hP
      have hb := sGK_b (a := s 0) (i := i)
      generalize sGK (s 0) i = b at hP hb q ⊢
      have outer : ∀ (r : Nat) (f : Int) (v6 v7 : AV), (5 - f).toNat = r → 0 ≤ f → f ≤ 5 → zW miX5_look P 40 [zr 0, zi i, zi b, zi (sArg (fun t => 10 * (t / 2) + t % 2) (fun t => sGr b (fun o => zLo o (t / 2) (t % 2))) (2 * f).toNat).1, zi (sArg (fun t => 10 * (t / 2) + t % 2) (fun t => sGr b (fun o => zLo o (t / 2) (t % 2))) (2 * f).toNat).2, zi f, v6, v7] D := by
        intro r
        induction r with
        | zero =>
          intro f v6 v7 hr f0 f1
          refine sX5_look_40 _ _ _ _ _ ?_
          simp only [tX5_look_40, w_ic, w_lc, w_lds, w_ild, w_lld, w_ald, w_ist, w_lst, w_ast, w_iinc, w_iadd, w_isub, w_imul, w_idiv, w_irem, w_iand, w_ior, w_ixor, w_ishl, w_ishr, w_iushr, w_ineg, w_ladd, w_lsub, w_lmul, w_ldiv, w_lrem, w_lcmp, w_i2l, w_l2i, w_dup, w_pop, w_dup2, w_ieq, w_zeq, w_ine, w_zne, w_ilt, w_zlt, w_ige, w_zge, w_igt, w_zgt, w_ile, w_zle, w_cut, w_tsw, zsw, w_iret, w_zret, w_lret, w_vret, w_nret, w_getI, w_getJ, w_getR, w_putI, w_putZ, w_putJ, w_iald, w_zald, w_iast, w_zast, w_alen, w_sI, w_sJ, w_sV, w_vI, w_vJ, w_vV, w_tI, w_mmax, w_mmin, w_mabs, w_lmax, w_acopy, gL, sL, kl_i, kl_l, kl_r, kl_s, kl_m, qI_i, qJ_l, qA_r, qA_s, pI_i, pJ_l, pA_r, pS_s, pM_m, pV_v, c1_i, c1_r, c1_s, c1_m, cS_0, cS_i, cS_l, cS_r, cS_s, cS_m, pN, z_rc_r, zE1, zE2, zE3, true_and, and_true, Nat.zero_add, Nat.reduceAdd, Nat.reduceLeDiff, true_or, or_true, q0, qp4, qp5, qp8, qp9, qf0, qz0, qf1, qz1, qf2, qz2, qf3, qz3, qf6, qz6, qf7, qz7, qf10, qz10, qf11, qz11, qf12, qz12, qf13, qz13, qf14, qz14, k1o, k1m, k1f0, k1z0, k1f1, k1z1, k1f2, k1z2, k1f3, k1z3, k1f4, k1z4, k1f5, k1z5, k1f6, k1z6, k1f7, k1z7, k1r0, k1r1, k1r2, k1r3, k1r4, k1r5, k1r6, k1w, k109, k109a, k109b, k109c, k109d, k109e, k109f, k109g, kr110, kr112, kr114, kr116, kr118, kr120, kr122]
          refine ⟨fun _ => ?_, fun q => absurd (by omega) q⟩
          rw [show f = 5 by omega]
          exact hP D Fr.rfl hC
        | succ r ih =>
          intro f v6 v7 hr f0 f1
          refine sX5_look_40 _ _ _ _ _ ?_
          simp only [tX5_look_40, w_ic, w_lc, w_lds, w_ild, w_lld, w_ald, w_ist, w_lst, w_ast, w_iinc, w_iadd, w_isub, w_imul, w_idiv, w_irem, w_iand, w_ior, w_ixor, w_ishl, w_ishr, w_iushr, w_ineg, w_ladd, w_lsub, w_lmul, w_ldiv, w_lrem, w_lcmp, w_i2l, w_l2i, w_dup, w_pop, w_dup2, w_ieq, w_zeq, w_ine, w_zne, w_ilt, w_zlt, w_ige, w_zge, w_igt, w_zgt, w_ile, w_zle, w_cut, w_tsw, zsw, w_iret, w_zret, w_lret, w_vret, w_nret, w_getI, w_getJ, w_getR, w_putI, w_putZ, w_putJ, w_iald, w_zald, w_iast, w_zast, w_alen, w_sI, w_sJ, w_sV, w_vI, w_vJ, w_vV, w_tI, w_mmax, w_mmin, w_mabs, w_lmax, w_acopy, gL, sL, kl_i, kl_l, kl_r, kl_s, kl_m, qI_i, qJ_l, qA_r, qA_s, pI_i, pJ_l, pA_r, pS_s, pM_m, pV_v, c1_i, c1_r, c1_s, c1_m, cS_0, cS_i, cS_l, cS_r, cS_s, cS_m, pN, z_rc_r, zE1, zE2, zE3, true_and, and_true, Nat.zero_add, Nat.reduceAdd, Nat.reduceLeDiff, true_or, or_true, q0, qp4, qp5, qp8, qp9, qf0, qz0, qf1, qz1, qf2, qz2, qf3, qz3, qf6, qz6, qf7, qz7, qf10, qz10, qf11, qz11, qf12, qz12, qf13, qz13, qf14, qz14, k1o, k1m, k1f0, k1z0, k1f1, k1z1, k1f2, k1z2, k1f3, k1z3, k1f4, k1z4, k1f5, k1z5, k1f6, k1z6, k1f7, k1z7, k1r0, k1r1, k1r2, k1r3, k1r4, k1r5, k1r6, k1w, k109, k109a, k109b, k109c, k109d, k109e, k109f, k109g, kr110, kr112, kr114, kr116, kr118, kr120, kr122]
          refine ⟨fun q => absurd q (by omega), fun _ => ?_⟩
          have inner : ∀ (s : Nat) (m : Int) (v7 : AV), (2 - m).toNat = s → 0 ≤ m → m ≤ 2 → zW miX5_look P 49 [zr 0, zi i, zi b, zi (sArg (fun t => 10 * (t / 2) + t % 2) (fun t => sGr b (fun o => zLo o (t / 2) (t % 2))) (2 * f + m).toNat).1, zi (sArg (fun t => 10 * (t / 2) + t % 2) (fun t => sGr b (fun o => zLo o (t / 2) (t % 2))) (2 * f + m).toNat).2, zi f, zi m, v7] D := by
            intro s
            induction s with
            | zero =>
              intro m v7 hs m0 m1
              refine sX5_look_49 _ _ _ _ _ ?_
              simp only [tX5_look_49, w_ic, w_lc, w_lds, w_ild, w_lld, w_ald, w_ist, w_lst, w_ast, w_iinc, w_iadd, w_isub, w_imul, w_idiv, w_irem, w_iand, w_ior, w_ixor, w_ishl, w_ishr, w_iushr, w_ineg, w_ladd, w_lsub, w_lmul, w_ldiv, w_lrem, w_lcmp, w_i2l, w_l2i, w_dup, w_pop, w_dup2, w_ieq, w_zeq, w_ine, w_zne, w_ilt, w_zlt, w_ige, w_zge, w_igt, w_zgt, w_ile, w_zle, w_cut, w_tsw, zsw, w_iret, w_zret, w_lret, w_vret, w_nret, w_getI, w_getJ, w_getR, w_putI, w_putZ, w_putJ, w_iald, w_zald, w_iast, w_zast, w_alen, w_sI, w_sJ, w_sV, w_vI, w_vJ, w_vV, w_tI, w_mmax, w_mmin, w_mabs, w_lmax, w_acopy, gL, sL, kl_i, kl_l, kl_r, kl_s, kl_m, qI_i, qJ_l, qA_r, qA_s, pI_i, pJ_l, pA_r, pS_s, pM_m, pV_v, c1_i, c1_r, c1_s, c1_m, cS_0, cS_i, cS_l, cS_r, cS_s, cS_m, pN, z_rc_r, zE1, zE2, zE3, true_and, and_true, Nat.zero_add, Nat.reduceAdd, Nat.reduceLeDiff, true_or, or_true, q0, qp4, qp5, qp8, qp9, qf0, qz0, qf1, qz1, qf2, qz2, qf3, qz3, qf6, qz6, qf7, qz7, qf10, qz10, qf11, qz11, qf12, qz12, qf13, qz13, qf14, qz14, k1o, k1m, k1f0, k1z0, k1f1, k1z1, k1f2, k1z2, k1f3, k1z3, k1f4, k1z4, k1f5, k1z5, k1f6, k1z6, k1f7, k1z7, k1r0, k1r1, k1r2, k1r3, k1r4, k1r5, k1r6, k1w, k109, k109a, k109b, k109c, k109d, k109e, k109f, k109g, kr110, kr112, kr114, kr116, kr118, kr120, kr122]
              refine ⟨fun _ => ⟨⟨by omega, by omega⟩, ?_⟩, fun q => absurd (by omega) q⟩
              rw [show 2 * f + m = 2 * (f + 1) by omega]
              exact ih (f + 1) _ _ (by omega) (by omega) (by omega)
            | succ s ihs =>
              intro m v7 hs m0 m1
              have ns := fun v7 => ihs (m + 1) v7 (by omega) (by omega) (by omega)
              rw [show 2 * f + (m + 1) = 2 * f + m + 1 by omega, sArg_s (by omega), show (2 * f + m) / 2 = f by omega, show (2 * f + m) % 2 = m by omega] at ns
              refine sX5_look_49 _ _ _ _ _ ?_
              simp only [tX5_look_49, w_ic, w_lc, w_lds, w_ild, w_lld, w_ald, w_ist, w_lst, w_ast, w_iinc, w_iadd, w_isub, w_imul, w_idiv, w_irem, w_iand, w_ior, w_ixor, w_ishl, w_ishr, w_iushr, w_ineg, w_ladd, w_lsub, w_lmul, w_ldiv, w_lrem, w_lcmp, w_i2l, w_l2i, w_dup, w_pop, w_dup2, w_ieq, w_zeq, w_ine, w_zne, w_ilt, w_zlt, w_ige, w_zge, w_igt, w_zgt, w_ile, w_zle, w_cut, w_tsw, zsw, w_iret, w_zret, w_lret, w_vret, w_nret, w_getI, w_getJ, w_getR, w_putI, w_putZ, w_putJ, w_iald, w_zald, w_iast, w_zast, w_alen, w_sI, w_sJ, w_sV, w_vI, w_vJ, w_vV, w_tI, w_mmax, w_mmin, w_mabs, w_lmax, w_acopy, gL, sL, kl_i, kl_l, kl_r, kl_s, kl_m, qI_i, qJ_l, qA_r, qA_s, pI_i, pJ_l, pA_r, pS_s, pM_m, pV_v, c1_i, c1_r, c1_s, c1_m, cS_0, cS_i, cS_l, cS_r, cS_s, cS_m, pN, z_rc_r, zE1, zE2, zE3, true_and, and_true, Nat.zero_add, Nat.reduceAdd, Nat.reduceLeDiff, true_or, or_true, q0, qp4, qp5, qp8, qp9, qf0, qz0, qf1, qz1, qf2, qz2, qf3, qz3, qf6, qz6, qf7, qz7, qf10, qz10, qf11, qz11, qf12, qz12, qf13, qz13, qf14, qz14, k1o, k1m, k1f0, k1z0, k1f1, k1z1, k1f2, k1z2, k1f3, k1z3, k1f4, k1z4, k1f5, k1z5, k1f6, k1z6, k1f7, k1z7, k1r0, k1r1, k1r2, k1r3, k1r4, k1r5, k1r6, k1w, k109, k109a, k109b, k109c, k109d, k109e, k109f, k109g, kr110, kr112, kr114, kr116, kr118, kr120, kr122]
              refine ⟨fun q => absurd q (by omega), fun _ => ?_⟩
              refine c_mostAlike hb.1 hb.2 f0 (by omega) m0 ⟨fun q => ⟨⟨by omega, by omega⟩, ?_⟩, fun q => ⟨⟨by omega, by omega⟩, ⟨by omega, by omega⟩, ⟨by omega, by omega⟩, ?_⟩⟩
              · rw [if_neg (by omega)] at ns
                exact ns _
              · rw [if_pos (by omega)] at ns
                exact ns _
          have := inner _ 0 v7 rfl (by omega) (by omega)
          rw [Int.add_zero] at this
          exact this
      exact outer _ 0 _ _ rfl (by omega) (by omega)
    · rw [cIf_t (by omega)] at hP
      exact hP D Fr.rfl hC
  · rw [h.2.1.1.2.1] at q
    rw [cIf_f q] at hP
    exact c_bad hC hW hn hP
theorem zbt_pc (b : Int) : zsum 6 (fun o => zbt b o) = zpc b := by
  show 0 + zbt b 0 + zbt b 1 + zbt b 2 + zbt b 3 + zbt b 4 + zbt b 5 = zpc b
  have e0 : zbt b 0 = b / 1 % 2 := rfl
  have e1 : zbt b 1 = b / 2 % 2 := rfl
  have e2 : zbt b 2 = b / 4 % 2 := rfl
  have e3 : zbt b 3 = b / 8 % 2 := rfl
  have e4 : zbt b 4 = b / 16 % 2 := rfl
  have e5 : zbt b 5 = b / 32 % 2 := rfl
  unfold zpc
  omega
theorem c_greaterPart {b x d : Int} {D : Mem} {P : Int → Mem → Prop} (b0 : 0 ≤ b) (b1 : b < 64) (x0 : 0 ≤ x) (x1 : x ≤ 10) (d0 : 0 ≤ d) (d1 : d ≤ 10) (hP : P (sGr b (fun o => if 1 ≤ zHe o x d then 1 else 0)) D) : zC miX5_greaterPart [zi b, zi x, zi d] D P := by
  rw [sGr_two, zbt_pc] at hP
  have loop : ∀ (r : Nat) (k : Int), (6 - k).toNat = r → 0 ≤ k → k ≤ 6 → zW miX5_greaterPart P 5 [zi b, zi x, zi d, zi (zsum k.toNat (fun o => if zbt b o = 1 ∧ 1 ≤ zHe o x d then 1 else 0)), zi k] D := by
    intro r
    induction r with
    | zero =>
      intro k hr k0 k1
      have zb := zsum_b (f := fun o => if zbt b o = 1 ∧ 1 ≤ zHe o x d then (1 : Int) else 0) (m := 1) k.toNat (fun k _ _ => by split <;> omega)
      refine sX5_greaterPart_5 _ _ _ _ _ ?_
      simp only [tX5_greaterPart_5, w_ic, w_lc, w_lds, w_ild, w_lld, w_ald, w_ist, w_lst, w_ast, w_iinc, w_iadd, w_isub, w_imul, w_idiv, w_irem, w_iand, w_ior, w_ixor, w_ishl, w_ishr, w_iushr, w_ineg, w_ladd, w_lsub, w_lmul, w_ldiv, w_lrem, w_lcmp, w_i2l, w_l2i, w_dup, w_pop, w_dup2, w_ieq, w_zeq, w_ine, w_zne, w_ilt, w_zlt, w_ige, w_zge, w_igt, w_zgt, w_ile, w_zle, w_cut, w_tsw, zsw, w_iret, w_zret, w_lret, w_vret, w_nret, w_getI, w_getJ, w_getR, w_putI, w_putZ, w_putJ, w_iald, w_zald, w_iast, w_zast, w_alen, w_sI, w_sJ, w_sV, w_vI, w_vJ, w_vV, w_tI, w_mmax, w_mmin, w_mabs, w_lmax, w_acopy, gL, sL, kl_i, kl_l, kl_r, kl_s, kl_m, qI_i, qJ_l, qA_r, qA_s, pI_i, pJ_l, pA_r, pS_s, pM_m, pV_v, c1_i, c1_r, c1_s, c1_m, cS_0, cS_i, cS_l, cS_r, cS_s, cS_m, pN, z_rc_r, zE1, zE2, zE3, true_and, and_true, Nat.zero_add, Nat.reduceAdd, Nat.reduceLeDiff, true_or, or_true]
      refine ⟨fun _ => ?_, fun q => absurd (by omega) q⟩
      have hp : 0 ≤ zpc b ∧ zpc b ≤ 6 := by unfold zpc; omega
      refine c_bitCount b0 b1 ⟨⟨by omega, by omega⟩, ?_⟩
      rw [show k = 6 by omega]
      exact hP
    | succ r ih =>
      intro k hr k0 k1
      have zb := zsum_b (f := fun o => if zbt b o = 1 ∧ 1 ≤ zHe o x d then (1 : Int) else 0) (m := 1) k.toNat (fun k _ _ => by split <;> omega)
      have nx := ih (k + 1) (by omega) (by omega) (by omega)
      rw [zsum_s k0] at nx
      have no : ¬ (zbt b k = 1 ∧ 1 ≤ zHe k x d) → zW miX5_greaterPart P 5 [zi b, zi x, zi d, zi (zsum k.toNat (fun o => if zbt b o = 1 ∧ 1 ≤ zHe o x d then 1 else 0)), zi (k + 1)] D := by
        intro q
        rw [if_neg q, Int.add_zero] at nx
        exact nx
      refine sX5_greaterPart_5 _ _ _ _ _ ?_
      simp only [tX5_greaterPart_5, w_ic, w_lc, w_lds, w_ild, w_lld, w_ald, w_ist, w_lst, w_ast, w_iinc, w_iadd, w_isub, w_imul, w_idiv, w_irem, w_iand, w_ior, w_ixor, w_ishl, w_ishr, w_iushr, w_ineg, w_ladd, w_lsub, w_lmul, w_ldiv, w_lrem, w_lcmp, w_i2l, w_l2i, w_dup, w_pop, w_dup2, w_ieq, w_zeq, w_ine, w_zne, w_ilt, w_zlt, w_ige, w_zge, w_igt, w_zgt, w_ile, w_zle, w_cut, w_tsw, zsw, w_iret, w_zret, w_lret, w_vret, w_nret, w_getI, w_getJ, w_getR, w_putI, w_putZ, w_putJ, w_iald, w_zald, w_iast, w_zast, w_alen, w_sI, w_sJ, w_sV, w_vI, w_vJ, w_vV, w_tI, w_mmax, w_mmin, w_mabs, w_lmax, w_acopy, gL, sL, kl_i, kl_l, kl_r, kl_s, kl_m, qI_i, qJ_l, qA_r, qA_s, pI_i, pJ_l, pA_r, pS_s, pM_m, pV_v, c1_i, c1_r, c1_s, c1_m, cS_0, cS_i, cS_l, cS_r, cS_s, cS_m, pN, z_rc_r, zE1, zE2, zE3, true_and, and_true, Nat.zero_add, Nat.reduceAdd, Nat.reduceLeDiff, true_or, or_true]
      rw [zbt_e b0 (by omega) k0 (by omega)]
      refine ⟨fun q => absurd q (by omega), fun _ => ⟨fun q => ⟨⟨by omega, by omega⟩, no fun w => q w.1⟩, fun q => ?_⟩⟩
      refine c_hearing k0 (by omega) x0 (by omega) d0 (by omega) ⟨fun q2 => ⟨⟨by omega, by omega⟩, no fun w => by omega⟩, fun q2 => ⟨⟨by omega, by omega⟩, ⟨by omega, by omega⟩, ?_⟩⟩
      rw [if_pos ⟨Decidable.not_not.mp q, by omega⟩] at nx
      exact nx
  refine e_X5_greaterPart ?_
  simp only [tX5_greaterPart_0, w_ic, w_lc, w_lds, w_ild, w_lld, w_ald, w_ist, w_lst, w_ast, w_iinc, w_iadd, w_isub, w_imul, w_idiv, w_irem, w_iand, w_ior, w_ixor, w_ishl, w_ishr, w_iushr, w_ineg, w_ladd, w_lsub, w_lmul, w_ldiv, w_lrem, w_lcmp, w_i2l, w_l2i, w_dup, w_pop, w_dup2, w_ieq, w_zeq, w_ine, w_zne, w_ilt, w_zlt, w_ige, w_zge, w_igt, w_zgt, w_ile, w_zle, w_cut, w_tsw, zsw, w_iret, w_zret, w_lret, w_vret, w_nret, w_getI, w_getJ, w_getR, w_putI, w_putZ, w_putJ, w_iald, w_zald, w_iast, w_zast, w_alen, w_sI, w_sJ, w_sV, w_vI, w_vJ, w_vV, w_tI, w_mmax, w_mmin, w_mabs, w_lmax, w_acopy, gL, sL, kl_i, kl_l, kl_r, kl_s, kl_m, qI_i, qJ_l, qA_r, qA_s, pI_i, pJ_l, pA_r, pS_s, pM_m, pV_v, c1_i, c1_r, c1_s, c1_m, cS_0, cS_i, cS_l, cS_r, cS_s, cS_m, pN, z_rc_r, zE1, zE2, zE3, true_and, and_true, Nat.zero_add, Nat.reduceAdd, Nat.reduceLeDiff, true_or, or_true]
  exact loop _ 0 rfl (by omega) (by omega)
noncomputable def sAk (b : Int) : Int := (sArg (fun t => 10 * (t / 8) + t % 8) (fun t => sGr b (fun o => if 1 ≤ zHe o (t / 8) (t % 8) then 1 else 0)) 80).1
noncomputable def r_ask (s : Mem) (i : Int) : Int × Mem := cIf (0 ≤ i ∧ i < s 0 2) (cIf (sWK (s 0) i = 0) (-1, s) (sAk (sWK (s 0) i), s)) (-2, sRf s 3)
theorem v_ask {n i : Int} {s : Mem} (hW : WS n s) (hn : n < 1000000) : cOK miX5_ask [zr 0, zi i] s (r_ask s i) := by
  intro D P hC hP
  have h := hC.1.1
  unfold r_ask at hP
  refine e_X5_ask ?_
  simp only [tX5_ask_0, w_ic, w_lc, w_lds, w_ild, w_lld, w_ald, w_ist, w_lst, w_ast, w_iinc, w_iadd, w_isub, w_imul, w_idiv, w_irem, w_iand, w_ior, w_ixor, w_ishl, w_ishr, w_iushr, w_ineg, w_ladd, w_lsub, w_lmul, w_ldiv, w_lrem, w_lcmp, w_i2l, w_l2i, w_dup, w_pop, w_dup2, w_ieq, w_zeq, w_ine, w_zne, w_ilt, w_zlt, w_ige, w_zge, w_igt, w_zgt, w_ile, w_zle, w_cut, w_tsw, zsw, w_iret, w_zret, w_lret, w_vret, w_nret, w_getI, w_getJ, w_getR, w_putI, w_putZ, w_putJ, w_iald, w_zald, w_iast, w_zast, w_alen, w_sI, w_sJ, w_sV, w_vI, w_vJ, w_vV, w_tI, w_mmax, w_mmin, w_mabs, w_lmax, w_acopy, gL, sL, kl_i, kl_l, kl_r, kl_s, kl_m, qI_i, qJ_l, qA_r, qA_s, pI_i, pJ_l, pA_r, pS_s, pM_m, pV_v, c1_i, c1_r, c1_s, c1_m, cS_0, cS_i, cS_l, cS_r, cS_s, cS_m, pN, z_rc_r, zE1, zE2, zE3, true_and, and_true, Nat.zero_add, Nat.reduceAdd, Nat.reduceLeDiff, true_or, or_true, q0, qp4, qp5, qp8, qp9, qf0, qz0, qf1, qz1, qf2, qz2, qf3, qz3, qf6, qz6, qf7, qz7, qf10, qz10, qf11, qz11, qf12, qz12, qf13, qz13, qf14, qz14, k1o, k1m, k1f0, k1z0, k1f1, k1z1, k1f2, k1z2, k1f3, k1z3, k1f4, k1z4, k1f5, k1z5, k1f6, k1z6, k1f7, k1z7, k1r0, k1r1, k1r2, k1r3, k1r4, k1r5, k1r6, k1w, k109, k109a, k109b, k109c, k109d, k109e, k109f, k109g, kr110, kr112, kr114, kr116, kr118, kr120, kr122]
  refine c_Rows_has bk1.r2 (fun c0 c1 => ⟨fun _ => ?_, fun w => absurd (by decide) w⟩) (fun q => ⟨fun w => absurd rfl w, fun _ => ?_⟩)
  · rw [h.2.1.1.2.2.1] at c1
    rw [cIf_t ⟨c0, c1⟩] at hP
    refine c_windowKinds hC ⟨fun q => ?_, fun q => ?_⟩
    · rw [cIf_f q] at hP
      have hb := sWK_b (a := s 0) (i := i)
      generalize sWK (s 0) i = b at hP hb q ⊢
      have h2 : ∀ z, z = sAk b → P z D := by
        intro z hz
        rw [← hz] at hP
        exact hP D Fr.rfl hC
      have outer : ∀ (r : Nat) (f : Int) (v6 v7 : AV), (10 - f).toNat = r → 0 ≤ f → f ≤ 10 → zW miX5_ask P 40 [zr 0, zi i, zi b, zi (sArg (fun t => 10 * (t / 8) + t % 8) (fun t => sGr b (fun o => if 1 ≤ zHe o (t / 8) (t % 8) then 1 else 0)) (8 * f).toNat).1, zi (sArg (fun t => 10 * (t / 8) + t % 8) (fun t => sGr b (fun o => if 1 ≤ zHe o (t / 8) (t % 8) then 1 else 0)) (8 * f).toNat).2, zi f, v6, v7] D := by
        intro r
        induction r with
        | zero =>
          intro f v6 v7 hr f0 f1
          refine sX5_ask_40 _ _ _ _ _ ?_
          simp only [tX5_ask_40, w_ic, w_lc, w_lds, w_ild, w_lld, w_ald, w_ist, w_lst, w_ast, w_iinc, w_iadd, w_isub, w_imul, w_idiv, w_irem, w_iand, w_ior, w_ixor, w_ishl, w_ishr, w_iushr, w_ineg, w_ladd, w_lsub, w_lmul, w_ldiv, w_lrem, w_lcmp, w_i2l, w_l2i, w_dup, w_pop, w_dup2, w_ieq, w_zeq, w_ine, w_zne, w_ilt, w_zlt, w_ige, w_zge, w_igt, w_zgt, w_ile, w_zle, w_cut, w_tsw, zsw, w_iret, w_zret, w_lret, w_vret, w_nret, w_getI, w_getJ, w_getR, w_putI, w_putZ, w_putJ, w_iald, w_zald, w_iast, w_zast, w_alen, w_sI, w_sJ, w_sV, w_vI, w_vJ, w_vV, w_tI, w_mmax, w_mmin, w_mabs, w_lmax, w_acopy, gL, sL, kl_i, kl_l, kl_r, kl_s, kl_m, qI_i, qJ_l, qA_r, qA_s, pI_i, pJ_l, pA_r, pS_s, pM_m, pV_v, c1_i, c1_r, c1_s, c1_m, cS_0, cS_i, cS_l, cS_r, cS_s, cS_m, pN, z_rc_r, zE1, zE2, zE3, true_and, and_true, Nat.zero_add, Nat.reduceAdd, Nat.reduceLeDiff, true_or, or_true, q0, qp4, qp5, qp8, qp9, qf0, qz0, qf1, qz1, qf2, qz2, qf3, qz3, qf6, qz6, qf7, qz7, qf10, qz10, qf11, qz11, qf12, qz12, qf13, qz13, qf14, qz14, k1o, k1m, k1f0, k1z0, k1f1, k1z1, k1f2, k1z2, k1f3, k1z3, k1f4, k1z4, k1f5, k1z5, k1f6, k1z6, k1f7, k1z7, k1r0, k1r1, k1r2, k1r3, k1r4, k1r5, k1r6, k1w, k109, k109a, k109b, k109c, k109d, k109e, k109f, k109g, kr110, kr112, kr114, kr116, kr118, kr120, kr122]
          refine ⟨fun _ => ?_, fun q => absurd (by omega) q⟩
          refine h2 _ ?_
          unfold sAk
          rw [show f = 10 by omega, show ((8 : Int) * 10).toNat = 80 from rfl]
        | succ r ih =>
          intro f v6 v7 hr f0 f1
          refine sX5_ask_40 _ _ _ _ _ ?_
          simp only [tX5_ask_40, w_ic, w_lc, w_lds, w_ild, w_lld, w_ald, w_ist, w_lst, w_ast, w_iinc, w_iadd, w_isub, w_imul, w_idiv, w_irem, w_iand, w_ior, w_ixor, w_ishl, w_ishr, w_iushr, w_ineg, w_ladd, w_lsub, w_lmul, w_ldiv, w_lrem, w_lcmp, w_i2l, w_l2i, w_dup, w_pop, w_dup2, w_ieq, w_zeq, w_ine, w_zne, w_ilt, w_zlt, w_ige, w_zge, w_igt, w_zgt, w_ile, w_zle, w_cut, w_tsw, zsw, w_iret, w_zret, w_lret, w_vret, w_nret, w_getI, w_getJ, w_getR, w_putI, w_putZ, w_putJ, w_iald, w_zald, w_iast, w_zast, w_alen, w_sI, w_sJ, w_sV, w_vI, w_vJ, w_vV, w_tI, w_mmax, w_mmin, w_mabs, w_lmax, w_acopy, gL, sL, kl_i, kl_l, kl_r, kl_s, kl_m, qI_i, qJ_l, qA_r, qA_s, pI_i, pJ_l, pA_r, pS_s, pM_m, pV_v, c1_i, c1_r, c1_s, c1_m, cS_0, cS_i, cS_l, cS_r, cS_s, cS_m, pN, z_rc_r, zE1, zE2, zE3, true_and, and_true, Nat.zero_add, Nat.reduceAdd, Nat.reduceLeDiff, true_or, or_true, q0, qp4, qp5, qp8, qp9, qf0, qz0, qf1, qz1, qf2, qz2, qf3, qz3, qf6, qz6, qf7, qz7, qf10, qz10, qf11, qz11, qf12, qz12, qf13, qz13, qf14, qz14, k1o, k1m, k1f0, k1z0, k1f1, k1z1, k1f2, k1z2, k1f3, k1z3, k1f4, k1z4, k1f5, k1z5, k1f6, k1z6, k1f7, k1z7, k1r0, k1r1, k1r2, k1r3, k1r4, k1r5, k1r6, k1w, k109, k109a, k109b, k109c, k109d, k109e, k109f, k109g, kr110, kr112, kr114, kr116, kr118, kr120, kr122]
          refine ⟨fun q => absurd q (by omega), fun _ => ?_⟩
          have inner : ∀ (s : Nat) (m : Int) (v7 : AV), (8 - m).toNat = s → 0 ≤ m → m ≤ 8 → zW miX5_ask P 50 [zr 0, zi i, zi b, zi (sArg (fun t => 10 * (t / 8) + t % 8) (fun t => sGr b (fun o => if 1 ≤ zHe o (t / 8) (t % 8) then 1 else 0)) (8 * f + m).toNat).1, zi (sArg (fun t => 10 * (t / 8) + t % 8) (fun t => sGr b (fun o => if 1 ≤ zHe o (t / 8) (t % 8) then 1 else 0)) (8 * f + m).toNat).2, zi f, zi m, v7] D := by
            intro s
            induction s with
            | zero =>
              intro m v7 hs m0 m1
              refine sX5_ask_50 _ _ _ _ _ ?_
              simp only [tX5_ask_50, w_ic, w_lc, w_lds, w_ild, w_lld, w_ald, w_ist, w_lst, w_ast, w_iinc, w_iadd, w_isub, w_imul, w_idiv, w_irem, w_iand, w_ior, w_ixor, w_ishl, w_ishr, w_iushr, w_ineg, w_ladd, w_lsub, w_lmul, w_ldiv, w_lrem, w_lcmp, w_i2l, w_l2i, w_dup, w_pop, w_dup2, w_ieq, w_zeq, w_ine, w_zne, w_ilt, w_zlt, w_ige, w_zge, w_igt, w_zgt, w_ile, w_zle, w_cut, w_tsw, zsw, w_iret, w_zret, w_lret, w_vret, w_nret, w_getI, w_getJ, w_getR, w_putI, w_putZ, w_putJ, w_iald, w_zald, w_iast, w_zast, w_alen, w_sI, w_sJ, w_sV, w_vI, w_vJ, w_vV, w_tI, w_mmax, w_mmin, w_mabs, w_lmax, w_acopy, gL, sL, kl_i, kl_l, kl_r, kl_s, kl_m, qI_i, qJ_l, qA_r, qA_s, pI_i, pJ_l, pA_r, pS_s, pM_m, pV_v, c1_i, c1_r, c1_s, c1_m, cS_0, cS_i, cS_l, cS_r, cS_s, cS_m, pN, z_rc_r, zE1, zE2, zE3, true_and, and_true, Nat.zero_add, Nat.reduceAdd, Nat.reduceLeDiff, true_or, or_true, q0, qp4, qp5, qp8, qp9, qf0, qz0, qf1, qz1, qf2, qz2, qf3, qz3, qf6, qz6, qf7, qz7, qf10, qz10, qf11, qz11, qf12, qz12, qf13, qz13, qf14, qz14, k1o, k1m, k1f0, k1z0, k1f1, k1z1, k1f2, k1z2, k1f3, k1z3, k1f4, k1z4, k1f5, k1z5, k1f6, k1z6, k1f7, k1z7, k1r0, k1r1, k1r2, k1r3, k1r4, k1r5, k1r6, k1w, k109, k109a, k109b, k109c, k109d, k109e, k109f, k109g, kr110, kr112, kr114, kr116, kr118, kr120, kr122]
              refine ⟨fun _ => ⟨⟨by omega, by omega⟩, ?_⟩, fun q => absurd (by omega) q⟩
              rw [show 8 * f + m = 8 * (f + 1) by omega]
              exact ih (f + 1) _ _ (by omega) (by omega) (by omega)
            | succ s ihs =>
              intro m v7 hs m0 m1
              have ns := fun v7 => ihs (m + 1) v7 (by omega) (by omega) (by omega)
              rw [show 8 * f + (m + 1) = 8 * f + m + 1 by omega, sArg_s (by omega), show (8 * f + m) / 8 = f by omega, show (8 * f + m) % 8 = m by omega] at ns
              refine sX5_ask_50 _ _ _ _ _ ?_
              simp only [tX5_ask_50, w_ic, w_lc, w_lds, w_ild, w_lld, w_ald, w_ist, w_lst, w_ast, w_iinc, w_iadd, w_isub, w_imul, w_idiv, w_irem, w_iand, w_ior, w_ixor, w_ishl, w_ishr, w_iushr, w_ineg, w_ladd, w_lsub, w_lmul, w_ldiv, w_lrem, w_lcmp, w_i2l, w_l2i, w_dup, w_pop, w_dup2, w_ieq, w_zeq, w_ine, w_zne, w_ilt, w_zlt, w_ige, w_zge, w_igt, w_zgt, w_ile, w_zle, w_cut, w_tsw, zsw, w_iret, w_zret, w_lret, w_vret, w_nret, w_getI, w_getJ, w_getR, w_putI, w_putZ, w_putJ, w_iald, w_zald, w_iast, w_zast, w_alen, w_sI, w_sJ, w_sV, w_vI, w_vJ, w_vV, w_tI, w_mmax, w_mmin, w_mabs, w_lmax, w_acopy, gL, sL, kl_i, kl_l, kl_r, kl_s, kl_m, qI_i, qJ_l, qA_r, qA_s, pI_i, pJ_l, pA_r, pS_s, pM_m, pV_v, c1_i, c1_r, c1_s, c1_m, cS_0, cS_i, cS_l, cS_r, cS_s, cS_m, pN, z_rc_r, zE1, zE2, zE3, true_and, and_true, Nat.zero_add, Nat.reduceAdd, Nat.reduceLeDiff, true_or, or_true, q0, qp4, qp5, qp8, qp9, qf0, qz0, qf1, qz1, qf2, qz2, qf3, qz3, qf6, qz6, qf7, qz7, qf10, qz10, qf11, qz11, qf12, qz12, qf13, qz13, qf14, qz14, k1o, k1m, k1f0, k1z0, k1f1, k1z1, k1f2, k1z2, k1f3, k1z3, k1f4, k1z4, k1f5, k1z5, k1f6, k1z6, k1f7, k1z7, k1r0, k1r1, k1r2, k1r3, k1r4, k1r5, k1r6, k1w, k109, k109a, k109b, k109c, k109d, k109e, k109f, k109g, kr110, kr112, kr114, kr116, kr118, kr120, kr122]
              refine ⟨fun q => absurd q (by omega), fun _ => ?_⟩
              refine c_greaterPart hb.1 hb.2 f0 (by omega) m0 (by omega) ⟨fun q => ⟨⟨by omega, by omega⟩, ?_⟩, fun q => ⟨⟨by omega, by omega⟩, ⟨by omega, by omega⟩, ⟨by omega, by omega⟩, ?_⟩⟩
              · rw [if_neg (by omega)] at ns
                exact ns _
              · rw [if_pos (by omega)] at ns
                exact ns _
          have := inner _ 0 v7 rfl (by omega) (by omega)
          rw [Int.add_zero] at this
          exact this
      exact outer _ 0 _ _ rfl (by omega) (by omega)
    · rw [cIf_t (by omega)] at hP
      exact hP D Fr.rfl hC
  · rw [h.2.1.1.2.2.1] at q
    rw [cIf_f q] at hP
    exact c_bad hC hW hn hP
