/-! ===== 32: what those methods answer ===== -/
theorem e_J6_bitCount_0f7a4 {x1 : Int} {D : Mem} {P : Int → Mem → Prop} (h : tJ6_bitCount_0f7a4_0 (zE P) [zi x1] [] zg D) : zC miJ6_bitCount_0f7a4 [zi x1] D P := zC.go mk_J6_bitCount_0f7a4 sJ6_bitCount_0f7a4_0 rfl (Nat.le_of_ble_eq_true rfl) h
theorem e_J0_coder_7d493 {i : Nat} {D : Mem} {P : Int → Mem → Prop} (h : tJ0_coder_7d493_0 (zE P) [zs i] [] zg D) : zC miJ0_coder_7d493 [zs i] D P := zC.go mk_J0_coder_7d493 sJ0_coder_7d493_0 rfl (Nat.le_of_ble_eq_true rfl) h
theorem e_J0_isLatin1_aae02 {i : Nat} {D : Mem} {P : Int → Mem → Prop} (h : tJ0_isLatin1_aae02_0 (zE P) [zs i] [] zg D) : zC miJ0_isLatin1_aae02 [zs i] D P := zC.go mk_J0_isLatin1_aae02 sJ0_isLatin1_aae02_0 rfl (Nat.le_of_ble_eq_true rfl) h
theorem e_J0_length_8abf5 {i : Nat} {D : Mem} {P : Int → Mem → Prop} (h : tJ0_length_8abf5_0 (zE P) [zs i] [] zg D) : zC miJ0_length_8abf5 [zs i] D P := zC.go mk_J0_length_8abf5 sJ0_length_8abf5_0 rfl (Nat.le_of_ble_eq_true rfl) h
theorem e_J3_checkIndex_8e157 {x n : Int} {k : Nat} {D : Mem} {P : Int → Mem → Prop} (h : tJ3_checkIndex_8e157_0 (zE P) [zi x, zi n, zm k] [] zg D) : zC miJ3_checkIndex_8e157 [zi x, zi n, zm k] D P := zC.go mk_J3_checkIndex_8e157 sJ3_checkIndex_8e157_0 rfl (Nat.le_of_ble_eq_true rfl) h
theorem e_J0_checkIndex_df160 {x n : Int} {D : Mem} {P : Int → Mem → Prop} (h : tJ0_checkIndex_df160_0 (zE P) [zi x, zi n] [] zg D) : zC miJ0_checkIndex_df160 [zi x, zi n] D P := zC.go mk_J0_checkIndex_df160 sJ0_checkIndex_df160_0 rfl (Nat.le_of_ble_eq_true rfl) h
theorem e_J1_charAt_3b067 {x : Int} {k : Nat} {D : Mem} {P : Int → Mem → Prop} (h : tJ1_charAt_3b067_0 (zE P) [zm k, zi x] [] zg D) : zC miJ1_charAt_3b067 [zm k, zi x] D P := zC.go mk_J1_charAt_3b067 sJ1_charAt_3b067_0 rfl (Nat.le_of_ble_eq_true rfl) h
theorem e_J0_charAt_5068e {x : Int} {i : Nat} {D : Mem} {P : Int → Mem → Prop} (h : tJ0_charAt_5068e_0 (zE P) [zs i, zi x] [] zg D) : zC miJ0_charAt_5068e [zs i, zi x] D P := zC.go mk_J0_charAt_5068e sJ0_charAt_5068e_0 rfl (Nat.le_of_ble_eq_true rfl) h
def zpc (x : Int) : Int := x % 2 + x / 2 % 2 + x / 4 % 2 + x / 8 % 2 + x / 16 % 2 + x / 32 % 2
def g1 (x : Int) : Int := x - bA (bU x 1) 1431655765
def g2 (x : Int) : Int := bA x 858993459 + bA (bU x 2) 858993459
def g3 (x : Int) : Int := x + bU x 4
def g4 (x : Int) : Int := x + bU x 8
def g5 (x : Int) : Int := x + bU x 16
theorem g_all : ∀ n : Nat, n < 64 → (-2147483648 ≤ g1 n ∧ g1 n < 2147483648) ∧ (-2147483648 ≤ g2 (g1 n) ∧ g2 (g1 n) < 2147483648) ∧ (-2147483648 ≤ g3 (g2 (g1 n)) ∧ g3 (g2 (g1 n)) < 2147483648) ∧ (-2147483648 ≤ g4 (bA (g3 (g2 (g1 n))) 252645135) ∧ g4 (bA (g3 (g2 (g1 n))) 252645135) < 2147483648) ∧ (-2147483648 ≤ g5 (g4 (bA (g3 (g2 (g1 n))) 252645135)) ∧ g5 (g4 (bA (g3 (g2 (g1 n))) 252645135)) < 2147483648) ∧ bA (g5 (g4 (bA (g3 (g2 (g1 n))) 252645135))) 63 = zpc n := by decide +kernel
theorem c_bitCount {x : Int} {D : Mem} {P : Int → Mem → Prop} (x0 : 0 ≤ x) (x1 : x < 64) (hP : P (zpc x) D) : zC miJ6_bitCount_0f7a4 [zi x] D P := by
  obtain ⟨n, rfl⟩ := Int.eq_ofNat_of_zero_le x0
  obtain ⟨h1, h2, h3, h4, h5, h6⟩ := g_all n (by omega)
  refine e_J6_bitCount_0f7a4 ?_
  simp only [tJ6_bitCount_0f7a4_0, w_ic, w_lc, w_lds, w_ild, w_lld, w_ald, w_ist, w_lst, w_ast, w_iinc, w_iadd, w_isub, w_imul, w_idiv, w_irem, w_iand, w_ior, w_ixor, w_ishl, w_ishr, w_iushr, w_ineg, w_ladd, w_lsub, w_lmul, w_ldiv, w_lrem, w_lcmp, w_i2l, w_l2i, w_dup, w_pop, w_dup2, w_ieq, w_zeq, w_ine, w_zne, w_ilt, w_zlt, w_ige, w_zge, w_igt, w_zgt, w_ile, w_zle, w_cut, w_tsw, zsw, w_iret, w_zret, w_lret, w_vret, w_nret, w_getI, w_getJ, w_getR, w_putI, w_putZ, w_putJ, w_iald, w_zald, w_iast, w_zast, w_alen, w_sI, w_sJ, w_sV, w_vI, w_vJ, w_vV, w_tI, w_mmax, w_mmin, w_mabs, w_lmax, w_acopy, gL, sL, kl_i, kl_l, kl_r, kl_s, kl_m, qI_i, qJ_l, qA_r, qA_s, pI_i, pJ_l, pA_r, pS_s, pM_m, pV_v, c1_i, c1_r, c1_s, c1_m, cS_0, cS_i, cS_l, cS_r, cS_s, cS_m, pN, z_rc_r, zE1, zE2, zE3, true_and, and_true, Nat.zero_add, Nat.reduceAdd, Nat.reduceLeDiff, true_or, or_true]
  have e : ∀ y : Int, -2147483648 ≤ y ∧ y < 2147483648 → zR y := fun y h => ⟨by omega, by omega⟩
  exact ⟨e _ h1, e _ h2, e _ h3, e _ h4, e _ h5, by rw [← h6] at hP; exact hP⟩
theorem c_coder {i : Nat} {D : Mem} {P : Int → Mem → Prop} (hP : P 0 D) : zC miJ0_coder_7d493 [zs i] D P := by
  refine e_J0_coder_7d493 ?_
  simp only [tJ0_coder_7d493_0, w_ic, w_lc, w_lds, w_ild, w_lld, w_ald, w_ist, w_lst, w_ast, w_iinc, w_iadd, w_isub, w_imul, w_idiv, w_irem, w_iand, w_ior, w_ixor, w_ishl, w_ishr, w_iushr, w_ineg, w_ladd, w_lsub, w_lmul, w_ldiv, w_lrem, w_lcmp, w_i2l, w_l2i, w_dup, w_pop, w_dup2, w_ieq, w_zeq, w_ine, w_zne, w_ilt, w_zlt, w_ige, w_zge, w_igt, w_zgt, w_ile, w_zle, w_cut, w_tsw, zsw, w_iret, w_zret, w_lret, w_vret, w_nret, w_getI, w_getJ, w_getR, w_putI, w_putZ, w_putJ, w_iald, w_zald, w_iast, w_zast, w_alen, w_sI, w_sJ, w_sV, w_vI, w_vJ, w_vV, w_tI, w_mmax, w_mmin, w_mabs, w_lmax, w_acopy, gL, sL, kl_i, kl_l, kl_r, kl_s, kl_m, qI_i, qJ_l, qA_r, qA_s, pI_i, pJ_l, pA_r, pS_s, pM_m, pV_v, c1_i, c1_r, c1_s, c1_m, cS_0, cS_i, cS_l, cS_r, cS_s, cS_m, pN, z_rc_r, zE1, zE2, zE3, true_and, and_true, Nat.zero_add, Nat.reduceAdd, Nat.reduceLeDiff, true_or, or_true, w_gs1, w_scod, w_nret]
  exact ⟨fun q => absurd q (by decide), fun _ => ⟨rfl, hP⟩⟩
theorem c_isLatin1 {i : Nat} {D : Mem} {P : Int → Mem → Prop} (hP : P 1 D) : zC miJ0_isLatin1_aae02 [zs i] D P := by
  refine e_J0_isLatin1_aae02 ?_
  simp only [tJ0_isLatin1_aae02_0, w_ic, w_lc, w_lds, w_ild, w_lld, w_ald, w_ist, w_lst, w_ast, w_iinc, w_iadd, w_isub, w_imul, w_idiv, w_irem, w_iand, w_ior, w_ixor, w_ishl, w_ishr, w_iushr, w_ineg, w_ladd, w_lsub, w_lmul, w_ldiv, w_lrem, w_lcmp, w_i2l, w_l2i, w_dup, w_pop, w_dup2, w_ieq, w_zeq, w_ine, w_zne, w_ilt, w_zlt, w_ige, w_zge, w_igt, w_zgt, w_ile, w_zle, w_cut, w_tsw, zsw, w_iret, w_zret, w_lret, w_vret, w_nret, w_getI, w_getJ, w_getR, w_putI, w_putZ, w_putJ, w_iald, w_zald, w_iast, w_zast, w_alen, w_sI, w_sJ, w_sV, w_vI, w_vJ, w_vV, w_tI, w_mmax, w_mmin, w_mabs, w_lmax, w_acopy, gL, sL, kl_i, kl_l, kl_r, kl_s, kl_m, qI_i, qJ_l, qA_r, qA_s, pI_i, pJ_l, pA_r, pS_s, pM_m, pV_v, c1_i, c1_r, c1_s, c1_m, cS_0, cS_i, cS_l, cS_r, cS_s, cS_m, pN, z_rc_r, zE1, zE2, zE3, true_and, and_true, Nat.zero_add, Nat.reduceAdd, Nat.reduceLeDiff, true_or, or_true, w_gs1, w_scod, w_nret]
  exact ⟨fun q => absurd q (by decide), fun _ => ⟨fun q => absurd trivial q, fun _ => hP⟩⟩
theorem c_length {i : Nat} {D : Mem} {P : Int → Mem → Prop} (hi : i < 7) (hP : P ((zsl.getD i 0 : Nat) : Int) D) : zC miJ0_length_8abf5 [zs i] D P := by
  refine e_J0_length_8abf5 ?_
  simp only [tJ0_length_8abf5_0, w_ic, w_lc, w_lds, w_ild, w_lld, w_ald, w_ist, w_lst, w_ast, w_iinc, w_iadd, w_isub, w_imul, w_idiv, w_irem, w_iand, w_ior, w_ixor, w_ishl, w_ishr, w_iushr, w_ineg, w_ladd, w_lsub, w_lmul, w_ldiv, w_lrem, w_lcmp, w_i2l, w_l2i, w_dup, w_pop, w_dup2, w_ieq, w_zeq, w_ine, w_zne, w_ilt, w_zlt, w_ige, w_zge, w_igt, w_zgt, w_ile, w_zle, w_cut, w_tsw, zsw, w_iret, w_zret, w_lret, w_vret, w_nret, w_getI, w_getJ, w_getR, w_putI, w_putZ, w_putJ, w_iald, w_zald, w_iast, w_zast, w_alen, w_sI, w_sJ, w_sV, w_vI, w_vJ, w_vV, w_tI, w_mmax, w_mmin, w_mabs, w_lmax, w_acopy, gL, sL, kl_i, kl_l, kl_r, kl_s, kl_m, qI_i, qJ_l, qA_r, qA_s, pI_i, pJ_l, pA_r, pS_s, pM_m, pV_v, c1_i, c1_r, c1_s, c1_m, cS_0, cS_i, cS_l, cS_r, cS_s, cS_m, pN, z_rc_r, zE1, zE2, zE3, true_and, and_true, Nat.zero_add, Nat.reduceAdd, Nat.reduceLeDiff, true_or, or_true, w_gs1, w_scod, w_nret, w_sval, w_blen]
  refine ⟨by omega, by omega, ⟨i, [], rfl⟩, c_coder ?_⟩
  rw [show 4 + i - 4 = i by omega]
  have e : bR ((zsl.getD i 0 : Nat) : Int) 0 = ((zsl.getD i 0 : Nat) : Int) := by
    have h7 : ∀ k : Nat, k < 7 → bR ((zsl.getD k 0 : Nat) : Int) 0 = ((zsl.getD k 0 : Nat) : Int) := by decide +kernel
    exact h7 i hi
  rw [e]
  exact hP
theorem c_J3check {x n : Int} {k : Nat} {D : Mem} {P : Int → Mem → Prop} (x0 : 0 ≤ x) (x1 : x < n) (hP : P x D) : zC miJ3_checkIndex_8e157 [zi x, zi n, zm k] D P := by
  refine e_J3_checkIndex_8e157 ?_
  simp only [tJ3_checkIndex_8e157_0, w_ic, w_lc, w_lds, w_ild, w_lld, w_ald, w_ist, w_lst, w_ast, w_iinc, w_iadd, w_isub, w_imul, w_idiv, w_irem, w_iand, w_ior, w_ixor, w_ishl, w_ishr, w_iushr, w_ineg, w_ladd, w_lsub, w_lmul, w_ldiv, w_lrem, w_lcmp, w_i2l, w_l2i, w_dup, w_pop, w_dup2, w_ieq, w_zeq, w_ine, w_zne, w_ilt, w_zlt, w_ige, w_zge, w_igt, w_zgt, w_ile, w_zle, w_cut, w_tsw, zsw, w_iret, w_zret, w_lret, w_vret, w_nret, w_getI, w_getJ, w_getR, w_putI, w_putZ, w_putJ, w_iald, w_zald, w_iast, w_zast, w_alen, w_sI, w_sJ, w_sV, w_vI, w_vJ, w_vV, w_tI, w_mmax, w_mmin, w_mabs, w_lmax, w_acopy, gL, sL, kl_i, kl_l, kl_r, kl_s, kl_m, qI_i, qJ_l, qA_r, qA_s, pI_i, pJ_l, pA_r, pS_s, pM_m, pV_v, c1_i, c1_r, c1_s, c1_m, cS_0, cS_i, cS_l, cS_r, cS_s, cS_m, pN, z_rc_r, zE1, zE2, zE3, true_and, and_true, Nat.zero_add, Nat.reduceAdd, Nat.reduceLeDiff, true_or, or_true, w_no]
  exact ⟨fun q => absurd x0 (by omega), fun _ => ⟨fun _ => hP, fun q => absurd x1 q⟩⟩
theorem c_J0check {x n : Int} {D : Mem} {P : Int → Mem → Prop} (x0 : 0 ≤ x) (x1 : x < n) (hP : P 0 D) : zC miJ0_checkIndex_df160 [zi x, zi n] D P := by
  refine e_J0_checkIndex_df160 ?_
  simp only [tJ0_checkIndex_df160_0, w_ic, w_lc, w_lds, w_ild, w_lld, w_ald, w_ist, w_lst, w_ast, w_iinc, w_iadd, w_isub, w_imul, w_idiv, w_irem, w_iand, w_ior, w_ixor, w_ishl, w_ishr, w_iushr, w_ineg, w_ladd, w_lsub, w_lmul, w_ldiv, w_lrem, w_lcmp, w_i2l, w_l2i, w_dup, w_pop, w_dup2, w_ieq, w_zeq, w_ine, w_zne, w_ilt, w_zlt, w_ige, w_zge, w_igt, w_zgt, w_ile, w_zle, w_cut, w_tsw, zsw, w_iret, w_zret, w_lret, w_vret, w_nret, w_getI, w_getJ, w_getR, w_putI, w_putZ, w_putJ, w_iald, w_zald, w_iast, w_zast, w_alen, w_sI, w_sJ, w_sV, w_vI, w_vJ, w_vV, w_tI, w_mmax, w_mmin, w_mabs, w_lmax, w_acopy, gL, sL, kl_i, kl_l, kl_r, kl_s, kl_m, qI_i, qJ_l, qA_r, qA_s, pI_i, pJ_l, pA_r, pS_s, pM_m, pV_v, c1_i, c1_r, c1_s, c1_m, cS_0, cS_i, cS_l, cS_r, cS_s, cS_m, pN, z_rc_r, zE1, zE2, zE3, true_and, and_true, Nat.zero_add, Nat.reduceAdd, Nat.reduceLeDiff, true_or, or_true, w_gsf]
  exact c_J3check x0 x1 hP
/-- the letter of a text -/
def zch (i : Nat) (j : Int) : Int := ((zsb.getD i []).getD j.toNat 0).toInt
theorem zch_b : ∀ i : Nat, i < 7 → ∀ j : Nat, j < 7 → 0 ≤ zch i j ∧ zch i j < 256 ∧ bA (zch i j) 255 = zch i j ∧ narrow FieldType.char (Value.int (Int32.ofInt (zch i j))) = Value.int (Int32.ofInt (zch i j)) := by decide +kernel
theorem zsl_b : ∀ i : Nat, i < 7 → zsl.getD i 0 ≤ 7 := by decide
theorem zch_of {i : Nat} {j : Int} (hi : i < 7) (j0 : 0 ≤ j) (j1 : j < ((zsl.getD i 0 : Nat) : Int)) : 0 ≤ zch i j ∧ zch i j < 256 ∧ bA (zch i j) 255 = zch i j ∧ narrow FieldType.char (Value.int (Int32.ofInt (zch i j))) = Value.int (Int32.ofInt (zch i j)) := by
  obtain ⟨n, rfl⟩ := Int.eq_ofNat_of_zero_le j0
  have := zsl_b i hi
  exact zch_b i hi n (by omega)
theorem c_J1charAt {i : Nat} {j : Int} {D : Mem} {P : Int → Mem → Prop} (hi : i < 7) (j0 : 0 ≤ j) (j1 : j < ((zsl.getD i 0 : Nat) : Int)) (hP : P (zch i j) D) : zC miJ1_charAt_3b067 [zm (4 + i), zi j] D P := by
  obtain ⟨h1, h2, h3, h4⟩ := zch_of hi j0 j1
  refine e_J1_charAt_3b067 ?_
  simp only [tJ1_charAt_3b067_0, w_ic, w_lc, w_lds, w_ild, w_lld, w_ald, w_ist, w_lst, w_ast, w_iinc, w_iadd, w_isub, w_imul, w_idiv, w_irem, w_iand, w_ior, w_ixor, w_ishl, w_ishr, w_iushr, w_ineg, w_ladd, w_lsub, w_lmul, w_ldiv, w_lrem, w_lcmp, w_i2l, w_l2i, w_dup, w_pop, w_dup2, w_ieq, w_zeq, w_ine, w_zne, w_ilt, w_zlt, w_ige, w_zge, w_igt, w_zgt, w_ile, w_zle, w_cut, w_tsw, zsw, w_iret, w_zret, w_lret, w_vret, w_nret, w_getI, w_getJ, w_getR, w_putI, w_putZ, w_putJ, w_iald, w_zald, w_iast, w_zast, w_alen, w_sI, w_sJ, w_sV, w_vI, w_vJ, w_vV, w_tI, w_mmax, w_mmin, w_mabs, w_lmax, w_acopy, gL, sL, kl_i, kl_l, kl_r, kl_s, kl_m, qI_i, qJ_l, qA_r, qA_s, pI_i, pJ_l, pA_r, pS_s, pM_m, pV_v, c1_i, c1_r, c1_s, c1_m, cS_0, cS_i, cS_l, cS_r, cS_s, cS_m, pN, z_rc_r, zE1, zE2, zE3, true_and, and_true, Nat.zero_add, Nat.reduceAdd, Nat.reduceLeDiff, true_or, or_true, w_blen, w_bld, w_i2c, w_nret]
  rw [show 4 + i - 4 = i by omega]
  have hq : qA (zm (4 + i)) := by unfold qA; first | trivial | omega | exact ⟨by omega, by omega⟩
  refine ⟨hq, by omega, by omega, c_J0check j0 j1 ?_⟩
  have e : ((zsb.getD i []).getD j.toNat 0).toInt = zch i j := rfl
  rw [e, h3]
  exact ⟨hq, by omega, by omega, j0, j1, h1, h2, h4, hP⟩
theorem c_charAt {i : Nat} {j : Int} {D : Mem} {P : Int → Mem → Prop} (hi : i < 7) (j0 : 0 ≤ j) (j1 : j < ((zsl.getD i 0 : Nat) : Int)) (hP : P (zch i j) D) : zC miJ0_charAt_5068e [zs i, zi j] D P := by
  obtain ⟨h1, h2, h3, h4⟩ := zch_of hi j0 j1
  refine e_J0_charAt_5068e ?_
  simp only [tJ0_charAt_5068e_0, w_ic, w_lc, w_lds, w_ild, w_lld, w_ald, w_ist, w_lst, w_ast, w_iinc, w_iadd, w_isub, w_imul, w_idiv, w_irem, w_iand, w_ior, w_ixor, w_ishl, w_ishr, w_iushr, w_ineg, w_ladd, w_lsub, w_lmul, w_ldiv, w_lrem, w_lcmp, w_i2l, w_l2i, w_dup, w_pop, w_dup2, w_ieq, w_zeq, w_ine, w_zne, w_ilt, w_zlt, w_ige, w_zge, w_igt, w_zgt, w_ile, w_zle, w_cut, w_tsw, zsw, w_iret, w_zret, w_lret, w_vret, w_nret, w_getI, w_getJ, w_getR, w_putI, w_putZ, w_putJ, w_iald, w_zald, w_iast, w_zast, w_alen, w_sI, w_sJ, w_sV, w_vI, w_vJ, w_vV, w_tI, w_mmax, w_mmin, w_mabs, w_lmax, w_acopy, gL, sL, kl_i, kl_l, kl_r, kl_s, kl_m, qI_i, qJ_l, qA_r, qA_s, pI_i, pJ_l, pA_r, pS_s, pM_m, pV_v, c1_i, c1_r, c1_s, c1_m, cS_0, cS_i, cS_l, cS_r, cS_s, cS_m, pN, z_rc_r, zE1, zE2, zE3, true_and, and_true, Nat.zero_add, Nat.reduceAdd, Nat.reduceLeDiff, true_or, or_true, w_sval, w_nret, w_no]
  refine ⟨⟨i, [], rfl⟩, c_isLatin1 ⟨fun q => absurd q (by decide), fun _ => c_J1charAt hi j0 j1 ⟨h4, hP⟩⟩⟩
