/-! ===== 36: odds ===== -/
theorem pw_b {b : Int} (b0 : 0 ≤ b) (b1 : b ≤ 10) : ∀ n : Nat, 0 ≤ b ^ n ∧ b ^ n ≤ 10 ^ n
  | 0 => ⟨by rw [Int.pow_zero]; decide, by rw [Int.pow_zero, Int.pow_zero]; decide⟩
  | n + 1 => by
    have ih := pw_b b0 b1 n
    have h10 : (0 : Int) < 10 ^ n := Int.pow_pos (by decide)
    rw [Int.pow_succ, Int.pow_succ]
    exact ⟨Int.mul_nonneg ih.1 b0, Int.mul_le_mul ih.2 b1 b0 (by omega)⟩
theorem p10_le : ∀ n : Nat, n ≤ 6 → (10 : Int) ^ n ≤ 1000000 := by decide
theorem c_power {b e : Int} {D : Mem} {P : Int → Mem → Prop} (b0 : 0 ≤ b) (b1 : b ≤ 10) (e0 : 0 ≤ e) (e1 : e ≤ 6) (hP : P (b ^ e.toNat) D) : zC miX5_power [zl b, zi e] D P := by
  have loop : ∀ (r : Nat) (i : Int), (e - i).toNat = r → 0 ≤ i → i ≤ e → zW miX5_power P 5 [zl b, zm 1, zi e, zl (b ^ i.toNat), zm 1, zi i] D := by
    intro r
    induction r with
    | zero =>
      intro i hr i0 i1
      refine sX5_power_5 _ _ _ _ _ ?_
      simp only [tX5_power_5, w_ic, w_lc, w_lds, w_ild, w_lld, w_ald, w_ist, w_lst, w_ast, w_iinc, w_iadd, w_isub, w_imul, w_idiv, w_irem, w_iand, w_ior, w_ixor, w_ishl, w_ishr, w_iushr, w_ineg, w_ladd, w_lsub, w_lmul, w_ldiv, w_lrem, w_lcmp, w_i2l, w_l2i, w_dup, w_pop, w_dup2, w_ieq, w_zeq, w_ine, w_zne, w_ilt, w_zlt, w_ige, w_zge, w_igt, w_zgt, w_ile, w_zle, w_cut, w_tsw, zsw, w_iret, w_zret, w_lret, w_vret, w_nret, w_getI, w_getJ, w_getR, w_putI, w_putZ, w_putJ, w_iald, w_zald, w_iast, w_zast, w_alen, w_sI, w_sJ, w_sV, w_vI, w_vJ, w_vV, w_tI, w_mmax, w_mmin, w_mabs, w_lmax, w_acopy, gL, sL, kl_i, kl_l, kl_r, kl_s, kl_m, qI_i, qJ_l, qA_r, qA_s, pI_i, pJ_l, pA_r, pS_s, pM_m, pV_v, c1_i, c1_r, c1_s, c1_m, cS_0, cS_i, cS_l, cS_r, cS_s, cS_m, pN, z_rc_r, zE1, zE2, zE3, true_and, and_true, Nat.zero_add, Nat.reduceAdd, Nat.reduceLeDiff, true_or, or_true]
      refine ⟨fun _ => ?_, fun q => absurd (by omega) q⟩
      rw [show i = e by omega]
      exact hP
    | succ r ih =>
      intro i hr i0 i1
      have hb := pw_b b0 b1 (i.toNat + 1)
      have h6 := p10_le (i.toNat + 1) (by omega)
      have nx := ih (i + 1) (by omega) (by omega) (by omega)
      rw [show (i + 1).toNat = i.toNat + 1 by omega, Int.pow_succ] at nx
      rw [Int.pow_succ] at hb
      refine sX5_power_5 _ _ _ _ _ ?_
      simp only [tX5_power_5, w_ic, w_lc, w_lds, w_ild, w_lld, w_ald, w_ist, w_lst, w_ast, w_iinc, w_iadd, w_isub, w_imul, w_idiv, w_irem, w_iand, w_ior, w_ixor, w_ishl, w_ishr, w_iushr, w_ineg, w_ladd, w_lsub, w_lmul, w_ldiv, w_lrem, w_lcmp, w_i2l, w_l2i, w_dup, w_pop, w_dup2, w_ieq, w_zeq, w_ine, w_zne, w_ilt, w_zlt, w_ige, w_zge, w_igt, w_zgt, w_ile, w_zle, w_cut, w_tsw, zsw, w_iret, w_zret, w_lret, w_vret, w_nret, w_getI, w_getJ, w_getR, w_putI, w_putZ, w_putJ, w_iald, w_zald, w_iast, w_zast, w_alen, w_sI, w_sJ, w_sV, w_vI, w_vJ, w_vV, w_tI, w_mmax, w_mmin, w_mabs, w_lmax, w_acopy, gL, sL, kl_i, kl_l, kl_r, kl_s, kl_m, qI_i, qJ_l, qA_r, qA_s, pI_i, pJ_l, pA_r, pS_s, pM_m, pV_v, c1_i, c1_r, c1_s, c1_m, cS_0, cS_i, cS_l, cS_r, cS_s, cS_m, pN, z_rc_r, zE1, zE2, zE3, true_and, and_true, Nat.zero_add, Nat.reduceAdd, Nat.reduceLeDiff, true_or, or_true]
      rw [z64_id (show zR6 (b ^ i.toNat * b) from ⟨by omega, by omega⟩)]
      exact ⟨fun q => absurd q (by omega), fun _ => ⟨⟨by omega, by omega⟩, nx⟩⟩
  refine e_X5_power ?_
  simp only [tX5_power_0, w_ic, w_lc, w_lds, w_ild, w_lld, w_ald, w_ist, w_lst, w_ast, w_iinc, w_iadd, w_isub, w_imul, w_idiv, w_irem, w_iand, w_ior, w_ixor, w_ishl, w_ishr, w_iushr, w_ineg, w_ladd, w_lsub, w_lmul, w_ldiv, w_lrem, w_lcmp, w_i2l, w_l2i, w_dup, w_pop, w_dup2, w_ieq, w_zeq, w_ine, w_zne, w_ilt, w_zlt, w_ige, w_zge, w_igt, w_zgt, w_ile, w_zle, w_cut, w_tsw, zsw, w_iret, w_zret, w_lret, w_vret, w_nret, w_getI, w_getJ, w_getR, w_putI, w_putZ, w_putJ, w_iald, w_zald, w_iast, w_zast, w_alen, w_sI, w_sJ, w_sV, w_vI, w_vJ, w_vV, w_tI, w_mmax, w_mmin, w_mabs, w_lmax, w_acopy, gL, sL, kl_i, kl_l, kl_r, kl_s, kl_m, qI_i, qJ_l, qA_r, qA_s, pI_i, pJ_l, pA_r, pS_s, pM_m, pV_v, c1_i, c1_r, c1_s, c1_m, cS_0, cS_i, cS_l, cS_r, cS_s, cS_m, pN, z_rc_r, zE1, zE2, zE3, true_and, and_true, Nat.zero_add, Nat.reduceAdd, Nat.reduceLeDiff, true_or, or_true]
  have := loop _ 0 rfl (by omega) e0
  rw [show (0 : Int).toNat = 0 from rfl, Int.pow_zero] at this
  exact this
def gg (a b : Int) : Int := ((Nat.gcd a.toNat b.toNat : Nat) : Int)
theorem gg_0 {a : Int} (h : 0 ≤ a) : gg a 0 = a := by
  unfold gg
  rw [show (0 : Int).toNat = 0 from rfl, Nat.gcd_zero_right]
  omega
theorem gg_s {a b : Int} (ha : 0 ≤ a) (hb : 0 < b) : gg b (a % b) = gg a b := by
  obtain ⟨m, rfl⟩ := Int.eq_ofNat_of_zero_le ha
  obtain ⟨n, rfl⟩ := Int.eq_ofNat_of_zero_le (show 0 ≤ b by omega)
  unfold gg
  rw [← Int.natCast_emod, Int.toNat_natCast, Int.toNat_natCast, Int.toNat_natCast, Nat.gcd_comm n (m % n), ← Nat.gcd_rec, Nat.gcd_comm]
theorem gg_pos {a b : Int} (ha : 0 < a) : 0 < gg a b := by
  unfold gg
  have := Nat.gcd_pos_of_pos_left b.toNat (show 0 < a.toNat by omega)
  omega
theorem eu_half {a b : Int} (hb : 0 < b) (hab : b ≤ a) : 0 ≤ a % b ∧ a % b < b ∧ 2 * (b * (a % b)) ≤ a * b := by
  have h1 := Int.emod_nonneg a (show b ≠ 0 by omega)
  have h2 := Int.emod_lt_of_pos a hb
  have h3 : 1 ≤ a / b := by
    have := (Int.le_ediv_iff_mul_le hb (a := 1) (b := a)).mpr (by omega)
    exact this
  have h4 := Int.mul_ediv_add_emod a b
  have h5 : b * 1 ≤ b * (a / b) := Int.mul_le_mul_of_nonneg_left h3 (by omega)
  refine ⟨h1, h2, ?_⟩
  have h6 : b * (2 * (a % b)) ≤ b * a := Int.mul_le_mul_of_nonneg_left (by omega) (by omega)
  have e1 : b * (2 * (a % b)) = 2 * (b * (a % b)) := by rw [Int.mul_left_comm]
  rw [e1, Int.mul_comm b a] at h6
  exact h6
theorem c_gcd {a b : Int} {D : Mem} {P : Int → Mem → Prop} (b0 : 0 ≤ b) (hab : b ≤ a) (a1 : a ≤ 1000000) (hP : P (gg a b) D) : zC miX5_commonDivisor [zl a, zl b] D P := by
  have loop : ∀ (r : Nat) (i x y : Int) (v v' : AV), (100 - i).toNat = r → 0 ≤ i → i ≤ 100 → 0 ≤ y → y ≤ x → x * y < 2 ^ r → gg x y = gg a b → zW miX5_commonDivisor P 9 [zl a, zm 1, zl b, zm 1, zl x, zm 1, zl y, zm 1, zi i, v, v'] D := by
    intro r
    induction r with
    | zero =>
      intro i x y v v' hr i0 i1 y0 yx hp hg
      have y00 : y = 0 := by
        rcases Int.lt_or_eq_of_le y0 with q | q
        · have : 1 * 1 ≤ x * y := Int.mul_le_mul (by omega) (by omega) (by decide) (by omega)
          rw [Int.pow_zero] at hp
          omega
        · exact q.symm
      rw [y00, gg_0 (by omega)] at hg
      refine sX5_commonDivisor_9 _ _ _ _ _ ?_
      simp only [tX5_commonDivisor_9, w_ic, w_lc, w_lds, w_ild, w_lld, w_ald, w_ist, w_lst, w_ast, w_iinc, w_iadd, w_isub, w_imul, w_idiv, w_irem, w_iand, w_ior, w_ixor, w_ishl, w_ishr, w_iushr, w_ineg, w_ladd, w_lsub, w_lmul, w_ldiv, w_lrem, w_lcmp, w_i2l, w_l2i, w_dup, w_pop, w_dup2, w_ieq, w_zeq, w_ine, w_zne, w_ilt, w_zlt, w_ige, w_zge, w_igt, w_zgt, w_ile, w_zle, w_cut, w_tsw, zsw, w_iret, w_zret, w_lret, w_vret, w_nret, w_getI, w_getJ, w_getR, w_putI, w_putZ, w_putJ, w_iald, w_zald, w_iast, w_zast, w_alen, w_sI, w_sJ, w_sV, w_vI, w_vJ, w_vV, w_tI, w_mmax, w_mmin, w_mabs, w_lmax, w_acopy, gL, sL, kl_i, kl_l, kl_r, kl_s, kl_m, qI_i, qJ_l, qA_r, qA_s, pI_i, pJ_l, pA_r, pS_s, pM_m, pV_v, c1_i, c1_r, c1_s, c1_m, cS_0, cS_i, cS_l, cS_r, cS_s, cS_m, pN, z_rc_r, zE1, zE2, zE3, true_and, and_true, Nat.zero_add, Nat.reduceAdd, Nat.reduceLeDiff, true_or, or_true]
      refine ⟨fun _ => ?_, fun q => absurd (by omega) q⟩
      rw [hg]
      exact hP
    | succ r ih =>
      intro i x y v v' hr i0 i1 y0 yx hp hg
      refine sX5_commonDivisor_9 _ _ _ _ _ ?_
      simp only [tX5_commonDivisor_9, w_ic, w_lc, w_lds, w_ild, w_lld, w_ald, w_ist, w_lst, w_ast, w_iinc, w_iadd, w_isub, w_imul, w_idiv, w_irem, w_iand, w_ior, w_ixor, w_ishl, w_ishr, w_iushr, w_ineg, w_ladd, w_lsub, w_lmul, w_ldiv, w_lrem, w_lcmp, w_i2l, w_l2i, w_dup, w_pop, w_dup2, w_ieq, w_zeq, w_ine, w_zne, w_ilt, w_zlt, w_ige, w_zge, w_igt, w_zgt, w_ile, w_zle, w_cut, w_tsw, zsw, w_iret, w_zret, w_lret, w_vret, w_nret, w_getI, w_getJ, w_getR, w_putI, w_putZ, w_putJ, w_iald, w_zald, w_iast, w_zast, w_alen, w_sI, w_sJ, w_sV, w_vI, w_vJ, w_vV, w_tI, w_mmax, w_mmin, w_mabs, w_lmax, w_acopy, gL, sL, kl_i, kl_l, kl_r, kl_s, kl_m, qI_i, qJ_l, qA_r, qA_s, pI_i, pJ_l, pA_r, pS_s, pM_m, pV_v, c1_i, c1_r, c1_s, c1_m, cS_0, cS_i, cS_l, cS_r, cS_s, cS_m, pN, z_rc_r, zE1, zE2, zE3, true_and, and_true, Nat.zero_add, Nat.reduceAdd, Nat.reduceLeDiff, true_or, or_true]
      refine ⟨fun q => absurd q (by omega), fun _ => ⟨fun q => ?_, fun q => ?_⟩⟩
      · have y00 : y = 0 := by
          unfold zcmp at q
          omega
        rw [y00, gg_0 (by omega)] at hg
        rw [hg]
        exact hP
      · have yp : 0 < y := by
          rcases Int.lt_or_eq_of_le y0 with q2 | q2
          · exact q2
          · exfalso
            rw [← q2] at q
            exact q rfl
        obtain ⟨e1, e2, e3⟩ := eu_half yp yx
        refine ⟨⟨by omega, by omega⟩, ⟨by omega, by omega⟩, ?_⟩
        refine ih (i + 1) y (x % y) _ _ (by omega) (by omega) (by omega) e1 (by omega) ?_ ((gg_s (by omega) yp).trans hg)
        rw [Int.pow_succ] at hp
        omega
  refine e_X5_commonDivisor ?_
  simp only [tX5_commonDivisor_0, w_ic, w_lc, w_lds, w_ild, w_lld, w_ald, w_ist, w_lst, w_ast, w_iinc, w_iadd, w_isub, w_imul, w_idiv, w_irem, w_iand, w_ior, w_ixor, w_ishl, w_ishr, w_iushr, w_ineg, w_ladd, w_lsub, w_lmul, w_ldiv, w_lrem, w_lcmp, w_i2l, w_l2i, w_dup, w_pop, w_dup2, w_ieq, w_zeq, w_ine, w_zne, w_ilt, w_zlt, w_ige, w_zge, w_igt, w_zgt, w_ile, w_zle, w_cut, w_tsw, zsw, w_iret, w_zret, w_lret, w_vret, w_nret, w_getI, w_getJ, w_getR, w_putI, w_putZ, w_putJ, w_iald, w_zald, w_iast, w_zast, w_alen, w_sI, w_sJ, w_sV, w_vI, w_vJ, w_vV, w_tI, w_mmax, w_mmin, w_mabs, w_lmax, w_acopy, gL, sL, kl_i, kl_l, kl_r, kl_s, kl_m, qI_i, qJ_l, qA_r, qA_s, pI_i, pJ_l, pA_r, pS_s, pM_m, pV_v, c1_i, c1_r, c1_s, c1_m, cS_0, cS_i, cS_l, cS_r, cS_s, cS_m, pN, z_rc_r, zE1, zE2, zE3, true_and, and_true, Nat.zero_add, Nat.reduceAdd, Nat.reduceLeDiff, true_or, or_true]
  refine loop _ 0 a b _ _ rfl (by omega) (by omega) b0 hab ?_ rfl
  have h1 : a * b ≤ 1000000 * 1000000 := Int.mul_le_mul a1 (by omega) b0 (by decide)
  have h2 : (1000000 : Int) * 1000000 < 2 ^ ((100 : Int) - 0).toNat := by decide +kernel
  omega
theorem zsum_swap {f : Int → Int → Int} (m : Nat) : ∀ n : Nat, zsum n (fun i => zsum m (fun k => f i k)) = zsum m (fun k => zsum n (fun i => f i k))
  | 0 => by
    show (0 : Int) = zsum m (fun k => 0)
    exact ((zsum_0 (f := fun _ => 0) (fun _ => Int.le_refl _) m).mpr (fun _ _ _ => rfl)).symm
  | n + 1 => by
    show zsum n (fun i => zsum m (fun k => f i k)) + zsum m (fun k => f n k) = zsum m (fun k => zsum n (fun i => f i k) + f n k)
    rw [zsum_swap m n, zsum_add]
theorem zsum_one {p : Prop} [Decidable p] {lo q : Int} : ∀ n : Nat, zsum n (fun f => if p ∧ q = lo + f then 1 else 0) = if p ∧ lo ≤ q ∧ q < lo + n then 1 else 0
  | 0 => by rw [if_neg (by omega)]; rfl
  | n + 1 => by
    show zsum n (fun f => if p ∧ q = lo + f then (1 : Int) else 0) + (if p ∧ q = lo + n then 1 else 0) = _
    rw [zsum_one n]
    by_cases hp : p
    · by_cases h1 : q = lo + n
      · rw [if_neg (by omega), if_pos ⟨hp, h1⟩, if_pos ⟨hp, by omega, by omega⟩]; rfl
      · have h1' : ¬ (p ∧ q = lo + n) := fun w => h1 w.2
        by_cases h2 : lo ≤ q ∧ q < lo + n
        · have h3 : p ∧ lo ≤ q ∧ q < lo + n := ⟨hp, h2⟩
          have h4 : p ∧ lo ≤ q ∧ q < lo + ((n + 1 : Nat) : Int) := ⟨hp, by omega, by omega⟩
          rw [if_pos h3, if_pos h4, if_neg h1']; rfl
        · have h3 : ¬ (p ∧ lo ≤ q ∧ q < lo + n) := fun w => h2 w.2
          have h4 : ¬ (p ∧ lo ≤ q ∧ q < lo + ((n + 1 : Nat) : Int)) := fun w => h2 ⟨w.2.1, by omega⟩
          rw [if_neg h3, if_neg h4, if_neg h1']; rfl
    · rw [if_neg (fun w => hp w.1), if_neg (fun w => hp w.1), if_neg (fun w => hp w.1)]; rfl
theorem sDn_b {a : Int → Int} {f z : Int} (h : 0 ≤ a 0 ∧ a 0 ≤ 6) : 0 ≤ sDn a f z ∧ sDn a f z ≤ 6 := by
  have := zsum_b (f := fun k => if k ≠ z ∧ a (10 + k) = 1 ∧ a (4 + k) / 4 = f then (1 : Int) else 0) (m := 1) (a 0).toNat (fun k _ _ => by split <;> omega)
  unfold sDn
  omega
theorem sDn_sum {a : Int → Int} {lo : Int} (h : 0 ≤ a 0 ∧ a 0 ≤ 6) (n : Nat) : 0 ≤ zsum n (fun f => sDn a (lo + f) (-1)) ∧ zsum n (fun f => sDn a (lo + f) (-1)) ≤ 6 := by
  have e : zsum n (fun f => sDn a (lo + f) (-1)) = zsum (a 0).toNat (fun k => if (k ≠ -1 ∧ a (10 + k) = 1) ∧ lo ≤ a (4 + k) / 4 ∧ a (4 + k) / 4 < lo + n then 1 else 0) := by
    unfold sDn
    rw [zsum_swap]
    refine zsum_eq _ fun k _ _ => ?_
    rw [← zsum_one]
    refine zsum_eq _ fun f _ _ => ?_
    by_cases q : k ≠ -1 ∧ a (10 + k) = 1 ∧ a (4 + k) / 4 = lo + f
    · rw [if_pos q, if_pos ⟨⟨q.1, q.2.1⟩, q.2.2⟩]
    · rw [if_neg q, if_neg (fun w => q ⟨w.1.1, w.1.2, w.2⟩)]
  have := zsum_b (f := fun k => if (k ≠ -1 ∧ a (10 + k) = 1) ∧ lo ≤ a (4 + k) / 4 ∧ a (4 + k) / 4 < lo + n then (1 : Int) else 0) (m := 1) (a 0).toNat (fun k _ _ => by split <;> omega)
  rw [e]
  omega
/-- of the floors from lo on: the part of the nights with a way, and all -/
noncomputable def sOdd (a : Int → Int) (lo c : Int) : Nat → Int × Int
  | 0 => (1, 1)
  | n + 1 => ((sOdd a lo c n).1 * (10 ^ (sDn a (lo + n) (-1)).toNat - c ^ (sDn a (lo + n) (-1)).toNat), (sOdd a lo c n).2 * 10 ^ (sDn a (lo + n) (-1)).toNat)
theorem sOdd_b {a : Int → Int} {lo c : Int} (h : 0 ≤ a 0 ∧ a 0 ≤ 6) (c0 : 0 ≤ c) (c1 : c ≤ 10) : ∀ n : Nat, 0 ≤ (sOdd a lo c n).1 ∧ (sOdd a lo c n).1 ≤ (sOdd a lo c n).2 ∧ (sOdd a lo c n).2 = 10 ^ (zsum n (fun f => sDn a (lo + f) (-1))).toNat
  | 0 => ⟨by show (0 : Int) ≤ 1; decide, by show (1 : Int) ≤ 1; decide, rfl⟩
  | n + 1 => by
    obtain ⟨h1, h2, h3⟩ := sOdd_b h c0 c1 n
    have hp := pw_b c0 c1 (sDn a (lo + n) (-1)).toNat
    have hs := (sDn_sum (lo := lo) h n).1
    have hd := sDn_b (f := lo + n) (z := -1) h
    have h10 : (0 : Int) < 10 ^ (sDn a (lo + n) (-1)).toNat := Int.pow_pos (by decide)
    refine ⟨?_, ?_, ?_⟩
    · exact Int.mul_nonneg h1 (by omega)
    · exact Int.mul_le_mul h2 (by omega) (by omega) (by omega)
    · show (sOdd a lo c n).2 * 10 ^ (sDn a (lo + n) (-1)).toNat = 10 ^ (zsum n (fun f => sDn a (lo + f) (-1)) + sDn a (lo + n) (-1)).toNat
      rw [h3, ← Int.pow_add, show (zsum n (fun f => sDn a (lo + f) (-1)) + sDn a (lo + n) (-1)).toNat = (zsum n (fun f => sDn a (lo + f) (-1))).toNat + (sDn a (lo + n) (-1)).toNat by omega]
theorem sOdd_6 {a : Int → Int} {lo c : Int} (h : 0 ≤ a 0 ∧ a 0 ≤ 6) (c0 : 0 ≤ c) (c1 : c ≤ 10) (n : Nat) : 0 < (sOdd a lo c n).2 ∧ (sOdd a lo c n).2 ≤ 1000000 := by
  have h3 := (sOdd_b (lo := lo) h c0 c1 n).2.2
  have hs := sDn_sum (lo := lo) h n
  rw [h3]
  exact ⟨Int.pow_pos (by decide), p10_le _ (by omega)⟩
theorem CS.frac {D s : Mem} {x y : Int} (h : CS D s) : CS (zU (zU D 0 8 x) 0 9 y) (sU s 4 (zA (zA (s 4) 6 x) 7 y)) := by
  obtain ⟨⟨h1, ⟨z, h2⟩, h3, h4⟩, ⟨h5, h6⟩, ⟨h7, h8⟩, ⟨h9, h10, h11⟩, h12, h13⟩ := h
  have e : ∀ o, o ≠ 0 → zU (zU D 0 8 x) 0 9 y o = D o := fun o q => by rw [zU_ne q, zU_ne q]
  have e0 : ∀ k : Int, k ≠ 8 → k ≠ 9 → zU (zU D 0 8 x) 0 9 y 0 k = D 0 k := fun k q q2 => by rw [zU_k q2, zU_k q]
  have n : ∀ j, j ≠ 6 → j ≠ 7 → zA (zA (s 4) 6 x) 7 y j = s 4 j := fun j q q2 => by rw [zA_n q2, zA_n q]
  refine ⟨⟨by rw [sU_n (by decide)]; exact h1.out fun o _ _ => e o (by omega), ⟨z, h2.out fun o _ _ => e o (by omega)⟩, by rw [sU_n (by decide)]; exact h3.out fun o _ _ => e o (by omega), by rw [sU_n (by decide)]; exact h4.out fun o _ _ => e o (by omega)⟩, ?_⟩
  rw [sU_s, sU_n (by decide), e 109 (by decide), e 111 (by decide), e 113 (by decide), e0 4 (by decide) (by decide), e0 5 (by decide) (by decide), n 0 (by decide) (by decide), n 1 (by decide) (by decide), n 2 (by decide) (by decide), n 3 (by decide) (by decide), n 4 (by decide) (by decide), n 5 (by decide) (by decide)]
  exact ⟨⟨h5, h6⟩, ⟨h7, h8⟩, ⟨h9, h10, h11⟩, by rw [zU_k (by decide), zU_s, zA_n (by decide), zA_s], by rw [zU_s, zA_s]⟩
noncomputable def sFra (a : Int → Int) (x y c : Int) : Int × Int :=
  ((sOdd a (min (x / 4) (y / 4)) c (max (x / 4) (y / 4) - min (x / 4) (y / 4)).toNat).1 / gg (sOdd a (min (x / 4) (y / 4)) c (max (x / 4) (y / 4) - min (x / 4) (y / 4)).toNat).2 (sOdd a (min (x / 4) (y / 4)) c (max (x / 4) (y / 4) - min (x / 4) (y / 4)).toNat).1,
   (sOdd a (min (x / 4) (y / 4)) c (max (x / 4) (y / 4) - min (x / 4) (y / 4)).toNat).2 / gg (sOdd a (min (x / 4) (y / 4)) c (max (x / 4) (y / 4) - min (x / 4) (y / 4)).toNat).2 (sOdd a (min (x / 4) (y / 4)) c (max (x / 4) (y / 4) - min (x / 4) (y / 4)).toNat).1)
noncomputable def r_odds (s : Mem) (x y c : Int) : Int × Mem := cIf (inC x ∧ inC y ∧ 0 ≤ c ∧ c ≤ 10) (1, sU s 4 (zA (zA (s 4) 6 (sFra (s 0) x y c).1) 7 (sFra (s 0) x y c).2)) (-2, sRf s 3)
theorem v_odds {n x y c : Int} {s : Mem} (hW : WS n s) (hn : n < 1000000) : cOK miX5_odds [zr 0, zi x, zi y, zi c] s (r_odds s x y c) := by
  intro D P hC hP
  unfold r_odds at hP
  have w := hC.1.1.2.2.1
  have n0 := w.n0
  refine e_X5_odds ?_
  simp only [tX5_odds_0, w_ic, w_lc, w_lds, w_ild, w_lld, w_ald, w_ist, w_lst, w_ast, w_iinc, w_iadd, w_isub, w_imul, w_idiv, w_irem, w_iand, w_ior, w_ixor, w_ishl, w_ishr, w_iushr, w_ineg, w_ladd, w_lsub, w_lmul, w_ldiv, w_lrem, w_lcmp, w_i2l, w_l2i, w_dup, w_pop, w_dup2, w_ieq, w_zeq, w_ine, w_zne, w_ilt, w_zlt, w_ige, w_zge, w_igt, w_zgt, w_ile, w_zle, w_cut, w_tsw, zsw, w_iret, w_zret, w_lret, w_vret, w_nret, w_getI, w_getJ, w_getR, w_putI, w_putZ, w_putJ, w_iald, w_zald, w_iast, w_zast, w_alen, w_sI, w_sJ, w_sV, w_vI, w_vJ, w_vV, w_tI, w_mmax, w_mmin, w_mabs, w_lmax, w_acopy, gL, sL, kl_i, kl_l, kl_r, kl_s, kl_m, qI_i, qJ_l, qA_r, qA_s, pI_i, pJ_l, pA_r, pS_s, pM_m, pV_v, c1_i, c1_r, c1_s, c1_m, cS_0, cS_i, cS_l, cS_r, cS_s, cS_m, pN, z_rc_r, zE1, zE2, zE3, true_and, and_true, Nat.zero_add, Nat.reduceAdd, Nat.reduceLeDiff, true_or, or_true, q0, qp4, qp5, qp8, qp9, qf0, qz0, qf1, qz1, qf2, qz2, qf3, qz3, qf6, qz6, qf7, qz7, qf10, qz10, qf11, qz11, qf12, qz12, qf13, qz13, qf14, qz14, k1o, k1m, k1f0, k1z0, k1f1, k1z1, k1f2, k1z2, k1f3, k1z3, k1f4, k1z4, k1f5, k1z5, k1f6, k1z6, k1f7, k1z7, k1r0, k1r1, k1r2, k1r3, k1r4, k1r5, k1r6, k1w, k109, k109a, k109b, k109c, k109d, k109e, k109f, k109g, kr110, kr112, kr114, kr116, kr118, kr120, kr122]
  refine c_isCell (fun g1 => ⟨fun w => absurd w (by decide), fun _ => ?_⟩) (fun q => ⟨fun _ => ?_, fun w => absurd rfl w⟩)
  · refine c_isCell (fun g2 => ⟨fun w => absurd w (by decide), fun _ => ?_⟩) (fun q => ⟨fun _ => ?_, fun w => absurd rfl w⟩)
    · refine c_within (fun c2 c3 => ⟨fun _ => ?_, fun w => absurd (by decide) w⟩) (fun q => ⟨fun w => absurd rfl w, fun _ => ?_⟩)
      · rw [cIf_t ⟨g1, g2, c2, c3⟩] at hP
        have x0 := g1.1
        have x1 := g1.2
        have y0 := g2.1
        have y1 := g2.2
        have loop : ∀ (r : Nat) (f : Int) (v9 v10 : AV), (max (x / 4) (y / 4) - f).toNat = r → min (x / 4) (y / 4) ≤ f → f ≤ max (x / 4) (y / 4) → zW miX5_odds P 48 [zr 0, zi x, zi y, zi c, zl (sOdd (s 0) (min (x / 4) (y / 4)) c (f - min (x / 4) (y / 4)).toNat).1, zm 1, zl (sOdd (s 0) (min (x / 4) (y / 4)) c (f - min (x / 4) (y / 4)).toNat).2, zm 1, zi f, v9] D := by
          intro r
          induction r with
          | zero =>
            intro f v9 v10 hr f0 f1
            refine sX5_odds_48 _ _ _ _ _ ?_
            simp only [tX5_odds_48, w_ic, w_lc, w_lds, w_ild, w_lld, w_ald, w_ist, w_lst, w_ast, w_iinc, w_iadd, w_isub, w_imul, w_idiv, w_irem, w_iand, w_ior, w_ixor, w_ishl, w_ishr, w_iushr, w_ineg, w_ladd, w_lsub, w_lmul, w_ldiv, w_lrem, w_lcmp, w_i2l, w_l2i, w_dup, w_pop, w_dup2, w_ieq, w_zeq, w_ine, w_zne, w_ilt, w_zlt, w_ige, w_zge, w_igt, w_zgt, w_ile, w_zle, w_cut, w_tsw, zsw, w_iret, w_zret, w_lret, w_vret, w_nret, w_getI, w_getJ, w_getR, w_putI, w_putZ, w_putJ, w_iald, w_zald, w_iast, w_zast, w_alen, w_sI, w_sJ, w_sV, w_vI, w_vJ, w_vV, w_tI, w_mmax, w_mmin, w_mabs, w_lmax, w_acopy, gL, sL, kl_i, kl_l, kl_r, kl_s, kl_m, qI_i, qJ_l, qA_r, qA_s, pI_i, pJ_l, pA_r, pS_s, pM_m, pV_v, c1_i, c1_r, c1_s, c1_m, cS_0, cS_i, cS_l, cS_r, cS_s, cS_m, pN, z_rc_r, zE1, zE2, zE3, true_and, and_true, Nat.zero_add, Nat.reduceAdd, Nat.reduceLeDiff, true_or, or_true, q0, qp4, qp5, qp8, qp9, qf0, qz0, qf1, qz1, qf2, qz2, qf3, qz3, qf6, qz6, qf7, qz7, qf10, qz10, qf11, qz11, qf12, qz12, qf13, qz13, qf14, qz14, k1o, k1m, k1f0, k1z0, k1f1, k1z1, k1f2, k1z2, k1f3, k1z3, k1f4, k1z4, k1f5, k1z5, k1f6, k1z6, k1f7, k1z7, k1r0, k1r1, k1r2, k1r3, k1r4, k1r5, k1r6, k1w, k109, k109a, k109b, k109c, k109d, k109e, k109f, k109g, kr110, kr112, kr114, kr116, kr118, kr120, kr122]
            refine c_floorOf x0 ?_
            refine c_floorOf y0 ?_
            refine ⟨fun _ => ?_, fun q => absurd (by omega) q⟩
            rw [show f = max (x / 4) (y / 4) by omega]
            have hb := sOdd_b (lo := min (x / 4) (y / 4)) n0 c2 c3 (max (x / 4) (y / 4) - min (x / 4) (y / 4)).toNat
            have h6 := sOdd_6 (lo := min (x / 4) (y / 4)) n0 c2 c3 (max (x / 4) (y / 4) - min (x / 4) (y / 4)).toNat
            refine c_gcd hb.1 hb.2.1 h6.2 ?_
            have hg := gg_pos (b := (sOdd (s 0) (min (x / 4) (y / 4)) c (max (x / 4) (y / 4) - min (x / 4) (y / 4)).toNat).1) h6.1
            rw [show max 1 (gg (sOdd (s 0) (min (x / 4) (y / 4)) c (max (x / 4) (y / 4) - min (x / 4) (y / 4)).toNat).2 (sOdd (s 0) (min (x / 4) (y / 4)) c (max (x / 4) (y / 4) - min (x / 4) (y / 4)).toNat).1) = gg (sOdd (s 0) (min (x / 4) (y / 4)) c (max (x / 4) (y / 4) - min (x / 4) (y / 4)).toNat).2 (sOdd (s 0) (min (x / 4) (y / 4)) c (max (x / 4) (y / 4) - min (x / 4) (y / 4)).toNat).1 by omega]
            refine ⟨⟨hb.1, hg⟩, ⟨by omega, hg⟩, ?_⟩
            exact hP _ ((Fr.up (by omega) (by omega)).trans (Fr.up (by omega) (by omega))) hC.frac
          | succ r ih =>
            intro f v9 v10 hr f0 f1
            have nx := fun v9 v10 => ih (f + 1) v9 v10 (by omega) (by omega) (by omega)
            rw [show (f + 1 - min (x / 4) (y / 4)).toNat = (f - min (x / 4) (y / 4)).toNat + 1 by omega] at nx
            have hb := sOdd_b (lo := min (x / 4) (y / 4)) n0 c2 c3 ((f - min (x / 4) (y / 4)).toNat + 1)
            have h6 := sOdd_6 (lo := min (x / 4) (y / 4)) n0 c2 c3 ((f - min (x / 4) (y / 4)).toNat + 1)
            have es : sOdd (s 0) (min (x / 4) (y / 4)) c ((f - min (x / 4) (y / 4)).toNat + 1) = ((sOdd (s 0) (min (x / 4) (y / 4)) c (f - min (x / 4) (y / 4)).toNat).1 * (10 ^ (sDn (s 0) f (-1)).toNat - c ^ (sDn (s 0) f (-1)).toNat), (sOdd (s 0) (min (x / 4) (y / 4)) c (f - min (x / 4) (y / 4)).toNat).2 * 10 ^ (sDn (s 0) f (-1)).toNat) := by
              show ((sOdd (s 0) (min (x / 4) (y / 4)) c (f - min (x / 4) (y / 4)).toNat).1 * (10 ^ (sDn (s 0) (min (x / 4) (y / 4) + ((f - min (x / 4) (y / 4)).toNat : Int)) (-1)).toNat - c ^ (sDn (s 0) (min (x / 4) (y / 4) + ((f - min (x / 4) (y / 4)).toNat : Int)) (-1)).toNat), (sOdd (s 0) (min (x / 4) (y / 4)) c (f - min (x / 4) (y / 4)).toNat).2 * 10 ^ (sDn (s 0) (min (x / 4) (y / 4) + ((f - min (x / 4) (y / 4)).toNat : Int)) (-1)).toNat) = _
              rw [show min (x / 4) (y / 4) + ((f - min (x / 4) (y / 4)).toNat : Int) = f by omega]
            rw [es] at nx hb h6
            have hd := sDn_b (f := f) (z := -1) n0
            have hp := pw_b c2 c3 (sDn (s 0) f (-1)).toNat
            have h10 := p10_le (sDn (s 0) f (-1)).toNat (by omega)
            dsimp only at nx hb h6
            refine sX5_odds_48 _ _ _ _ _ ?_
            simp only [tX5_odds_48, w_ic, w_lc, w_lds, w_ild, w_lld, w_ald, w_ist, w_lst, w_ast, w_iinc, w_iadd, w_isub, w_imul, w_idiv, w_irem, w_iand, w_ior, w_ixor, w_ishl, w_ishr, w_iushr, w_ineg, w_ladd, w_lsub, w_lmul, w_ldiv, w_lrem, w_lcmp, w_i2l, w_l2i, w_dup, w_pop, w_dup2, w_ieq, w_zeq, w_ine, w_zne, w_ilt, w_zlt, w_ige, w_zge, w_igt, w_zgt, w_ile, w_zle, w_cut, w_tsw, zsw, w_iret, w_zret, w_lret, w_vret, w_nret, w_getI, w_getJ, w_getR, w_putI, w_putZ, w_putJ, w_iald, w_zald, w_iast, w_zast, w_alen, w_sI, w_sJ, w_sV, w_vI, w_vJ, w_vV, w_tI, w_mmax, w_mmin, w_mabs, w_lmax, w_acopy, gL, sL, kl_i, kl_l, kl_r, kl_s, kl_m, qI_i, qJ_l, qA_r, qA_s, pI_i, pJ_l, pA_r, pS_s, pM_m, pV_v, c1_i, c1_r, c1_s, c1_m, cS_0, cS_i, cS_l, cS_r, cS_s, cS_m, pN, z_rc_r, zE1, zE2, zE3, true_and, and_true, Nat.zero_add, Nat.reduceAdd, Nat.reduceLeDiff, true_or, or_true, q0, qp4, qp5, qp8, qp9, qf0, qz0, qf1, qz1, qf2, qz2, qf3, qz3, qf6, qz6, qf7, qz7, qf10, qz10, qf11, qz11, qf12, qz12, qf13, qz13, qf14, qz14, k1o, k1m, k1f0, k1z0, k1f1, k1z1, k1f2, k1z2, k1f3, k1z3, k1f4, k1z4, k1f5, k1z5, k1f6, k1z6, k1f7, k1z7, k1r0, k1r1, k1r2, k1r3, k1r4, k1r5, k1r6, k1w, k109, k109a, k109b, k109c, k109d, k109e, k109f, k109g, kr110, kr112, kr114, kr116, kr118, kr120, kr122]
            refine c_floorOf x0 ?_
            refine c_floorOf y0 ?_
            refine ⟨fun q => absurd q (by omega), fun _ => ?_⟩
            refine c_downOn bk1 hC.1.1 ?_
            refine c_power (b := 10) (by decide) (by decide) hd.1 hd.2 ?_
            refine c_power c2 c3 hd.1 hd.2 ?_
            rw [z64_id (show zR6 (10 ^ (sDn (s 0) f (-1)).toNat - c ^ (sDn (s 0) f (-1)).toNat) from ⟨by omega, by omega⟩), z64_id (show zR6 ((sOdd (s 0) (min (x / 4) (y / 4)) c (f - min (x / 4) (y / 4)).toNat).1 * (10 ^ (sDn (s 0) f (-1)).toNat - c ^ (sDn (s 0) f (-1)).toNat)) from ⟨by omega, by omega⟩)]
            refine c_power (b := 10) (by decide) (by decide) hd.1 hd.2 ?_
            rw [z64_id (show zR6 ((sOdd (s 0) (min (x / 4) (y / 4)) c (f - min (x / 4) (y / 4)).toNat).2 * 10 ^ (sDn (s 0) f (-1)).toNat) from ⟨by omega, by omega⟩)]
            exact ⟨⟨by omega, by omega⟩, nx _ (zm 0)⟩
        refine c_floorOf x0 ?_
        refine c_floorOf y0 ?_
        have := loop _ (min (x / 4) (y / 4)) (zm 0) (zm 0) rfl (by omega) (by omega)
        rw [show (min (x / 4) (y / 4) - min (x / 4) (y / 4)).toNat = 0 by omega] at this
        exact this
      · rw [cIf_f (fun w => q w.2.2)] at hP
        exact c_bad hC hW hn hP
    · rw [cIf_f (fun w => q w.2.1)] at hP
      exact c_bad hC hW hn hP
  · rw [cIf_f (fun w => q w.1)] at hP
    exact c_bad hC hW hn hP
