/-! ===== 14: Row and Rows ===== -/
theorem c_Row_get {o a len : Nat} {i : Int} {D : Mem} {P : Int → Mem → Prop} (hR : zRow o a len) (h0 : 0 ≤ i) (h1 : i < len) (hP : P (D a i) D) : zC miX2_get [zr o, zi i] D P := by
  refine e_X2_get ?_
  simp only [tX2_get_0, w_ic, w_lc, w_lds, w_ild, w_lld, w_ald, w_ist, w_lst, w_ast, w_iinc, w_iadd, w_isub, w_imul, w_idiv, w_irem, w_iand, w_ior, w_ixor, w_ishl, w_ishr, w_iushr, w_ineg, w_ladd, w_lsub, w_lmul, w_ldiv, w_lrem, w_lcmp, w_i2l, w_l2i, w_dup, w_pop, w_dup2, w_ieq, w_zeq, w_ine, w_zne, w_ilt, w_zlt, w_ige, w_zge, w_igt, w_zgt, w_ile, w_zle, w_cut, w_tsw, zsw, w_iret, w_zret, w_lret, w_vret, w_nret, w_getI, w_getJ, w_getR, w_putI, w_putZ, w_putJ, w_iald, w_zald, w_iast, w_zast, w_alen, w_sI, w_sJ, w_sV, w_vI, w_vJ, w_vV, w_tI, w_mmax, w_mmin, w_mabs, w_lmax, w_acopy, gL, sL, kl_i, kl_l, kl_r, kl_s, kl_m, qI_i, qJ_l, qA_r, qA_s, pI_i, pJ_l, pA_r, pS_s, pM_m, pV_v, c1_i, c1_r, c1_s, c1_m, cS_0, cS_i, cS_l, cS_r, cS_s, cS_m, pN, z_rc_r, zE1, zE2, zE3, true_and, and_true, Nat.zero_add, Nat.reduceAdd, Nat.reduceLeDiff, true_or, or_true, hR.o, hR.fr, hR.zf, hR.a, hR.n]
  repeat' (with_reducible first | apply And.intro | intro _)
  all_goals first | assumption | omega | exact ⟨by omega, by omega⟩ | skip
theorem c_Row_set {o a len : Nat} {i x : Int} {D : Mem} {P : Int → Mem → Prop} (hR : zRow o a len) (h0 : 0 ≤ i) (h1 : i < len) (hP : P 0 (zU D a i x)) : zC miX2_set [zr o, zi i, zi x] D P := by
  refine e_X2_set ?_
  simp only [tX2_set_0, w_ic, w_lc, w_lds, w_ild, w_lld, w_ald, w_ist, w_lst, w_ast, w_iinc, w_iadd, w_isub, w_imul, w_idiv, w_irem, w_iand, w_ior, w_ixor, w_ishl, w_ishr, w_iushr, w_ineg, w_ladd, w_lsub, w_lmul, w_ldiv, w_lrem, w_lcmp, w_i2l, w_l2i, w_dup, w_pop, w_dup2, w_ieq, w_zeq, w_ine, w_zne, w_ilt, w_zlt, w_ige, w_zge, w_igt, w_zgt, w_ile, w_zle, w_cut, w_tsw, zsw, w_iret, w_zret, w_lret, w_vret, w_nret, w_getI, w_getJ, w_getR, w_putI, w_putZ, w_putJ, w_iald, w_zald, w_iast, w_zast, w_alen, w_sI, w_sJ, w_sV, w_vI, w_vJ, w_vV, w_tI, w_mmax, w_mmin, w_mabs, w_lmax, w_acopy, gL, sL, kl_i, kl_l, kl_r, kl_s, kl_m, qI_i, qJ_l, qA_r, qA_s, pI_i, pJ_l, pA_r, pS_s, pM_m, pV_v, c1_i, c1_r, c1_s, c1_m, cS_0, cS_i, cS_l, cS_r, cS_s, cS_m, pN, z_rc_r, zE1, zE2, zE3, true_and, and_true, Nat.zero_add, Nat.reduceAdd, Nat.reduceLeDiff, true_or, or_true, hR.o, hR.fr, hR.zf, hR.a, hR.n]
  repeat' (with_reducible first | apply And.intro | intro _)
  all_goals first | assumption | omega | exact ⟨by omega, by omega⟩ | skip
theorem c_Rows_size {o r a lim wid : Nat} {D : Mem} {P : Int → Mem → Prop} (hR : zRows o r a lim wid) (hP : P (D o 3) D) : zC miX3_size [zr o] D P := by
  refine e_X3_size ?_
  simp only [tX3_size_0, w_ic, w_lc, w_lds, w_ild, w_lld, w_ald, w_ist, w_lst, w_ast, w_iinc, w_iadd, w_isub, w_imul, w_idiv, w_irem, w_iand, w_ior, w_ixor, w_ishl, w_ishr, w_iushr, w_ineg, w_ladd, w_lsub, w_lmul, w_ldiv, w_lrem, w_lcmp, w_i2l, w_l2i, w_dup, w_pop, w_dup2, w_ieq, w_zeq, w_ine, w_zne, w_ilt, w_zlt, w_ige, w_zge, w_igt, w_zgt, w_ile, w_zle, w_cut, w_tsw, zsw, w_iret, w_zret, w_lret, w_vret, w_nret, w_getI, w_getJ, w_getR, w_putI, w_putZ, w_putJ, w_iald, w_zald, w_iast, w_zast, w_alen, w_sI, w_sJ, w_sV, w_vI, w_vJ, w_vV, w_tI, w_mmax, w_mmin, w_mabs, w_lmax, w_acopy, gL, sL, kl_i, kl_l, kl_r, kl_s, kl_m, qI_i, qJ_l, qA_r, qA_s, pI_i, pJ_l, pA_r, pS_s, pM_m, pV_v, c1_i, c1_r, c1_s, c1_m, cS_0, cS_i, cS_l, cS_r, cS_s, cS_m, pN, z_rc_r, zE1, zE2, zE3, true_and, and_true, Nat.zero_add, Nat.reduceAdd, Nat.reduceLeDiff, true_or, or_true, hR.o, hR.f3]
  repeat' (with_reducible first | apply And.intro | intro _)
  all_goals first | assumption | omega | exact ⟨by omega, by omega⟩ | skip
theorem c_Rows_isFull {o r a lim wid : Nat} {D : Mem} {P : Int → Mem → Prop} (hR : zRows o r a lim wid) (h1 : D o 0 ≤ D o 3 → P 1 D) (h0 : D o 3 < D o 0 → P 0 D) : zC miX3_isFull [zr o] D P := by
  refine e_X3_isFull ?_
  simp only [tX3_isFull_0, w_ic, w_lc, w_lds, w_ild, w_lld, w_ald, w_ist, w_lst, w_ast, w_iinc, w_iadd, w_isub, w_imul, w_idiv, w_irem, w_iand, w_ior, w_ixor, w_ishl, w_ishr, w_iushr, w_ineg, w_ladd, w_lsub, w_lmul, w_ldiv, w_lrem, w_lcmp, w_i2l, w_l2i, w_dup, w_pop, w_dup2, w_ieq, w_zeq, w_ine, w_zne, w_ilt, w_zlt, w_ige, w_zge, w_igt, w_zgt, w_ile, w_zle, w_cut, w_tsw, zsw, w_iret, w_zret, w_lret, w_vret, w_nret, w_getI, w_getJ, w_getR, w_putI, w_putZ, w_putJ, w_iald, w_zald, w_iast, w_zast, w_alen, w_sI, w_sJ, w_sV, w_vI, w_vJ, w_vV, w_tI, w_mmax, w_mmin, w_mabs, w_lmax, w_acopy, gL, sL, kl_i, kl_l, kl_r, kl_s, kl_m, qI_i, qJ_l, qA_r, qA_s, pI_i, pJ_l, pA_r, pS_s, pM_m, pV_v, c1_i, c1_r, c1_s, c1_m, cS_0, cS_i, cS_l, cS_r, cS_s, cS_m, pN, z_rc_r, zE1, zE2, zE3, true_and, and_true, Nat.zero_add, Nat.reduceAdd, Nat.reduceLeDiff, true_or, or_true, hR.o, hR.f3, hR.f0]
  refine ⟨fun h => h0 h, fun h => h1 (by omega)⟩
theorem c_Rows_has {o r a lim wid : Nat} {i : Int} {D : Mem} {P : Int → Mem → Prop} (hR : zRows o r a lim wid) (h1 : 0 ≤ i → i < D o 3 → P 1 D) (h0 : ¬ (0 ≤ i ∧ i < D o 3) → P 0 D) : zC miX3_has [zr o, zi i] D P := by
  refine e_X3_has ?_
  simp only [tX3_has_0, w_ic, w_lc, w_lds, w_ild, w_lld, w_ald, w_ist, w_lst, w_ast, w_iinc, w_iadd, w_isub, w_imul, w_idiv, w_irem, w_iand, w_ior, w_ixor, w_ishl, w_ishr, w_iushr, w_ineg, w_ladd, w_lsub, w_lmul, w_ldiv, w_lrem, w_lcmp, w_i2l, w_l2i, w_dup, w_pop, w_dup2, w_ieq, w_zeq, w_ine, w_zne, w_ilt, w_zlt, w_ige, w_zge, w_igt, w_zgt, w_ile, w_zle, w_cut, w_tsw, zsw, w_iret, w_zret, w_lret, w_vret, w_nret, w_getI, w_getJ, w_getR, w_putI, w_putZ, w_putJ, w_iald, w_zald, w_iast, w_zast, w_alen, w_sI, w_sJ, w_sV, w_vI, w_vJ, w_vV, w_tI, w_mmax, w_mmin, w_mabs, w_lmax, w_acopy, gL, sL, kl_i, kl_l, kl_r, kl_s, kl_m, qI_i, qJ_l, qA_r, qA_s, pI_i, pJ_l, pA_r, pS_s, pM_m, pV_v, c1_i, c1_r, c1_s, c1_m, cS_0, cS_i, cS_l, cS_r, cS_s, cS_m, pN, z_rc_r, zE1, zE2, zE3, true_and, and_true, Nat.zero_add, Nat.reduceAdd, Nat.reduceLeDiff, true_or, or_true, hR.o, hR.f3]
  refine ⟨fun h => h0 (by omega), fun h => ⟨fun h2 => h0 (by omega), fun h2 => h1 (by omega) (by omega)⟩⟩
theorem zm_lt {i c w l : Int} (h0 : 0 ≤ i) (h1 : i < l) (c0 : 0 ≤ c) (c1 : c < w) : 0 ≤ i * w ∧ i * w + c < l * w := by
  have h2 : (i + 1) * w ≤ l * w := Int.mul_le_mul_of_nonneg_right (by omega) (by omega)
  have h3 : 0 ≤ i * w := Int.mul_nonneg h0 (by omega)
  rw [Int.add_mul, Int.one_mul] at h2
  exact ⟨h3, by omega⟩
/-- a Rows's numbers in their bounds -/
def zRD (D : Mem) (o lim wid : Nat) : Prop := D o 0 = lim ∧ D o 1 = wid ∧ 0 ≤ D o 3 ∧ D o 3 ≤ lim
theorem zRD.of_eq {D D' : Mem} {o lim wid : Nat} (h : zRD D o lim wid) (e : D' o = D o) : zRD D' o lim wid := by
  unfold zRD
  rw [e]
  exact h
theorem c_Rows_get {o r a lim wid : Nat} {i c : Int} {D : Mem} {P : Int → Mem → Prop} (hR : zRows o r a lim wid) (hD : zRD D o lim wid) (h0 : 0 ≤ i) (h1 : i < D o 3) (c0 : 0 ≤ c) (c1 : c < wid) (hP : P (D a (i * wid + c)) D) : zC miX3_get [zr o, zi i, zi c] D P := by
  refine e_X3_get ?_
  simp only [tX3_get_0, w_ic, w_lc, w_lds, w_ild, w_lld, w_ald, w_ist, w_lst, w_ast, w_iinc, w_iadd, w_isub, w_imul, w_idiv, w_irem, w_iand, w_ior, w_ixor, w_ishl, w_ishr, w_iushr, w_ineg, w_ladd, w_lsub, w_lmul, w_ldiv, w_lrem, w_lcmp, w_i2l, w_l2i, w_dup, w_pop, w_dup2, w_ieq, w_zeq, w_ine, w_zne, w_ilt, w_zlt, w_ige, w_zge, w_igt, w_zgt, w_ile, w_zle, w_cut, w_tsw, zsw, w_iret, w_zret, w_lret, w_vret, w_nret, w_getI, w_getJ, w_getR, w_putI, w_putZ, w_putJ, w_iald, w_zald, w_iast, w_zast, w_alen, w_sI, w_sJ, w_sV, w_vI, w_vJ, w_vV, w_tI, w_mmax, w_mmin, w_mabs, w_lmax, w_acopy, gL, sL, kl_i, kl_l, kl_r, kl_s, kl_m, qI_i, qJ_l, qA_r, qA_s, pI_i, pJ_l, pA_r, pS_s, pM_m, pV_v, c1_i, c1_r, c1_s, c1_m, cS_0, cS_i, cS_l, cS_r, cS_s, cS_m, pN, z_rc_r, zE1, zE2, zE3, true_and, and_true, Nat.zero_add, Nat.reduceAdd, Nat.reduceLeDiff, true_or, or_true, hR.o, hR.f3, hR.f1, hR.fr, hR.zf, hR.row.o]
  have hb := zm_lt (i := i) (c := c) (w := wid) (l := lim) h0 (by have := hD.2.2.2; omega) c0 c1
  have hl : ((lim * wid : Nat) : Int) < 2000 := by have := hR.row.2.2.2.2; omega
  rw [Int.natCast_mul] at hl
  refine c_Rows_has hR (fun _ _ => ?_) (fun h => absurd ⟨h0, h1⟩ h)
  rw [hD.2.1]
  refine ⟨by omega, fun _ => ⟨by omega, fun _ => ⟨by omega, fun _ => ⟨⟨by omega, by omega⟩, ⟨by omega, by omega⟩, ?_⟩⟩⟩⟩
  exact c_Row_get hR.row (by omega) (by rw [Int.natCast_mul]; omega) hP
theorem c_Rows_set {o r a lim wid : Nat} {i c x : Int} {D : Mem} {P : Int → Mem → Prop} (hR : zRows o r a lim wid) (hD : zRD D o lim wid) (h0 : 0 ≤ i) (h1 : i < D o 3) (c0 : 0 ≤ c) (c1 : c < wid) (hP : P 0 (zU D a (i * wid + c) x)) : zC miX3_set [zr o, zi i, zi c, zi x] D P := by
  refine e_X3_set ?_
  simp only [tX3_set_0, w_ic, w_lc, w_lds, w_ild, w_lld, w_ald, w_ist, w_lst, w_ast, w_iinc, w_iadd, w_isub, w_imul, w_idiv, w_irem, w_iand, w_ior, w_ixor, w_ishl, w_ishr, w_iushr, w_ineg, w_ladd, w_lsub, w_lmul, w_ldiv, w_lrem, w_lcmp, w_i2l, w_l2i, w_dup, w_pop, w_dup2, w_ieq, w_zeq, w_ine, w_zne, w_ilt, w_zlt, w_ige, w_zge, w_igt, w_zgt, w_ile, w_zle, w_cut, w_tsw, zsw, w_iret, w_zret, w_lret, w_vret, w_nret, w_getI, w_getJ, w_getR, w_putI, w_putZ, w_putJ, w_iald, w_zald, w_iast, w_zast, w_alen, w_sI, w_sJ, w_sV, w_vI, w_vJ, w_vV, w_tI, w_mmax, w_mmin, w_mabs, w_lmax, w_acopy, gL, sL, kl_i, kl_l, kl_r, kl_s, kl_m, qI_i, qJ_l, qA_r, qA_s, pI_i, pJ_l, pA_r, pS_s, pM_m, pV_v, c1_i, c1_r, c1_s, c1_m, cS_0, cS_i, cS_l, cS_r, cS_s, cS_m, pN, z_rc_r, zE1, zE2, zE3, true_and, and_true, Nat.zero_add, Nat.reduceAdd, Nat.reduceLeDiff, true_or, or_true, hR.o, hR.f3, hR.f1, hR.fr, hR.zf, hR.row.o]
  have hb := zm_lt (i := i) (c := c) (w := wid) (l := lim) h0 (by have := hD.2.2.2; omega) c0 c1
  have hl : ((lim * wid : Nat) : Int) < 2000 := by have := hR.row.2.2.2.2; omega
  rw [Int.natCast_mul] at hl
  refine c_Rows_has hR (fun _ _ => ?_) (fun h => absurd ⟨h0, h1⟩ h)
  rw [hD.2.1]
  refine ⟨by omega, fun _ => ⟨by omega, fun _ => ⟨by omega, fun _ => ⟨⟨by omega, by omega⟩, ⟨by omega, by omega⟩, ?_⟩⟩⟩⟩
  exact c_Row_set hR.row (by omega) (by rw [Int.natCast_mul]; omega) hP
/-- set where the column may be too large: then nothing happens -/
theorem c_Rows_set' {o r a lim wid : Nat} {i c x : Int} {D : Mem} {P : Int → Mem → Prop} (hR : zRows o r a lim wid) (hD : zRD D o lim wid) (h0 : 0 ≤ i) (h1 : i < D o 3) (c0 : 0 ≤ c) (hP : P 0 (if c < wid then zU D a (i * wid + c) x else D)) : zC miX3_set [zr o, zi i, zi c, zi x] D P := by
  by_cases hc : c < wid
  · rw [if_pos hc] at hP
    exact c_Rows_set hR hD h0 h1 c0 hc hP
  · rw [if_neg hc] at hP
    refine e_X3_set ?_
    simp only [tX3_set_0, w_ic, w_lc, w_lds, w_ild, w_lld, w_ald, w_ist, w_lst, w_ast, w_iinc, w_iadd, w_isub, w_imul, w_idiv, w_irem, w_iand, w_ior, w_ixor, w_ishl, w_ishr, w_iushr, w_ineg, w_ladd, w_lsub, w_lmul, w_ldiv, w_lrem, w_lcmp, w_i2l, w_l2i, w_dup, w_pop, w_dup2, w_ieq, w_zeq, w_ine, w_zne, w_ilt, w_zlt, w_ige, w_zge, w_igt, w_zgt, w_ile, w_zle, w_cut, w_tsw, zsw, w_iret, w_zret, w_lret, w_vret, w_nret, w_getI, w_getJ, w_getR, w_putI, w_putZ, w_putJ, w_iald, w_zald, w_iast, w_zast, w_alen, w_sI, w_sJ, w_sV, w_vI, w_vJ, w_vV, w_tI, w_mmax, w_mmin, w_mabs, w_lmax, w_acopy, gL, sL, kl_i, kl_l, kl_r, kl_s, kl_m, qI_i, qJ_l, qA_r, qA_s, pI_i, pJ_l, pA_r, pS_s, pM_m, pV_v, c1_i, c1_r, c1_s, c1_m, cS_0, cS_i, cS_l, cS_r, cS_s, cS_m, pN, z_rc_r, zE1, zE2, zE3, true_and, and_true, Nat.zero_add, Nat.reduceAdd, Nat.reduceLeDiff, true_or, or_true, hR.o, hR.f3, hR.f1, hR.fr, hR.zf, hR.row.o]
    refine c_Rows_has hR (fun _ _ => ?_) (fun h => absurd ⟨h0, h1⟩ h)
    rw [hD.2.1]
    exact ⟨by omega, fun _ => ⟨by omega, fun _ => ⟨fun _ => hP, by omega⟩⟩⟩
theorem zRows.lw {o r a lim wid : Nat} (h : zRows o r a lim wid) : (lim : Int) * wid < 2000 := by
  have := h.row.2.2.2.2
  rw [← Int.natCast_mul]
  omega
theorem c_Rows_dropLast {o r a lim wid : Nat} {D : Mem} {P : Int → Mem → Prop} (hR : zRows o r a lim wid) (h0 : 0 ≤ D o 3) (h1 : D o 3 ≤ 2000) (hP : P 0 (zU D o 3 (max 0 (D o 3 - 1)))) : zC miX3_dropLast [zr o] D P := by
  refine e_X3_dropLast ?_
  simp only [tX3_dropLast_0, w_ic, w_lc, w_lds, w_ild, w_lld, w_ald, w_ist, w_lst, w_ast, w_iinc, w_iadd, w_isub, w_imul, w_idiv, w_irem, w_iand, w_ior, w_ixor, w_ishl, w_ishr, w_iushr, w_ineg, w_ladd, w_lsub, w_lmul, w_ldiv, w_lrem, w_lcmp, w_i2l, w_l2i, w_dup, w_pop, w_dup2, w_ieq, w_zeq, w_ine, w_zne, w_ilt, w_zlt, w_ige, w_zge, w_igt, w_zgt, w_ile, w_zle, w_cut, w_tsw, zsw, w_iret, w_zret, w_lret, w_vret, w_nret, w_getI, w_getJ, w_getR, w_putI, w_putZ, w_putJ, w_iald, w_zald, w_iast, w_zast, w_alen, w_sI, w_sJ, w_sV, w_vI, w_vJ, w_vV, w_tI, w_mmax, w_mmin, w_mabs, w_lmax, w_acopy, gL, sL, kl_i, kl_l, kl_r, kl_s, kl_m, qI_i, qJ_l, qA_r, qA_s, pI_i, pJ_l, pA_r, pS_s, pM_m, pV_v, c1_i, c1_r, c1_s, c1_m, cS_0, cS_i, cS_l, cS_r, cS_s, cS_m, pN, z_rc_r, zE1, zE2, zE3, true_and, and_true, Nat.zero_add, Nat.reduceAdd, Nat.reduceLeDiff, true_or, or_true, hR.o, hR.f3]
  exact ⟨⟨by omega, by omega⟩, hP⟩
theorem c_Rows_empty {o r a lim wid : Nat} {D : Mem} {P : Int → Mem → Prop} (hR : zRows o r a lim wid) (hP : P (D o 3) (zU D o 3 0)) : zC miX3_empty [zr o] D P := by
  refine e_X3_empty ?_
  simp only [tX3_empty_0, w_ic, w_lc, w_lds, w_ild, w_lld, w_ald, w_ist, w_lst, w_ast, w_iinc, w_iadd, w_isub, w_imul, w_idiv, w_irem, w_iand, w_ior, w_ixor, w_ishl, w_ishr, w_iushr, w_ineg, w_ladd, w_lsub, w_lmul, w_ldiv, w_lrem, w_lcmp, w_i2l, w_l2i, w_dup, w_pop, w_dup2, w_ieq, w_zeq, w_ine, w_zne, w_ilt, w_zlt, w_ige, w_zge, w_igt, w_zgt, w_ile, w_zle, w_cut, w_tsw, zsw, w_iret, w_zret, w_lret, w_vret, w_nret, w_getI, w_getJ, w_getR, w_putI, w_putZ, w_putJ, w_iald, w_zald, w_iast, w_zast, w_alen, w_sI, w_sJ, w_sV, w_vI, w_vJ, w_vV, w_tI, w_mmax, w_mmin, w_mabs, w_lmax, w_acopy, gL, sL, kl_i, kl_l, kl_r, kl_s, kl_m, qI_i, qJ_l, qA_r, qA_s, pI_i, pJ_l, pA_r, pS_s, pM_m, pV_v, c1_i, c1_r, c1_s, c1_m, cS_0, cS_i, cS_l, cS_r, cS_s, cS_m, pN, z_rc_r, zE1, zE2, zE3, true_and, and_true, Nat.zero_add, Nat.reduceAdd, Nat.reduceLeDiff, true_or, or_true, hR.o, hR.f3]
  repeat' (with_reducible first | apply And.intro | intro _)
  all_goals first | assumption | omega | exact ⟨by omega, by omega⟩ | skip
theorem c_Row_take {o a o2 a2 len : Nat} {D : Mem} {P : Int → Mem → Prop} (hR : zRow o a len) (hR2 : zRow o2 a2 len) (hP : P 0 (zCp D a2 0 a 0 len)) : zC miX2_take [zr o, zr o2] D P := by
  refine e_X2_take ?_
  simp only [tX2_take_0, w_ic, w_lc, w_lds, w_ild, w_lld, w_ald, w_ist, w_lst, w_ast, w_iinc, w_iadd, w_isub, w_imul, w_idiv, w_irem, w_iand, w_ior, w_ixor, w_ishl, w_ishr, w_iushr, w_ineg, w_ladd, w_lsub, w_lmul, w_ldiv, w_lrem, w_lcmp, w_i2l, w_l2i, w_dup, w_pop, w_dup2, w_ieq, w_zeq, w_ine, w_zne, w_ilt, w_zlt, w_ige, w_zge, w_igt, w_zgt, w_ile, w_zle, w_cut, w_tsw, zsw, w_iret, w_zret, w_lret, w_vret, w_nret, w_getI, w_getJ, w_getR, w_putI, w_putZ, w_putJ, w_iald, w_zald, w_iast, w_zast, w_alen, w_sI, w_sJ, w_sV, w_vI, w_vJ, w_vV, w_tI, w_mmax, w_mmin, w_mabs, w_lmax, w_acopy, gL, sL, kl_i, kl_l, kl_r, kl_s, kl_m, qI_i, qJ_l, qA_r, qA_s, pI_i, pJ_l, pA_r, pS_s, pM_m, pV_v, c1_i, c1_r, c1_s, c1_m, cS_0, cS_i, cS_l, cS_r, cS_s, cS_m, pN, z_rc_r, zE1, zE2, zE3, true_and, and_true, Nat.zero_add, Nat.reduceAdd, Nat.reduceLeDiff, true_or, or_true, hR.o, hR.fr, hR.zf, hR.a, hR.n, hR2.o, hR2.fr, hR2.zf, hR2.a, hR2.n]
  rw [show min (len : Int) len = len by omega]
  repeat' (with_reducible first | apply And.intro | intro _)
  all_goals first | assumption | omega | exact ⟨by omega, by omega⟩ | skip
theorem c_Rows_take {o r a o2 r2 a2 lim wid : Nat} {D : Mem} {P : Int → Mem → Prop} (hR : zRows o r a lim wid) (hR2 : zRows o2 r2 a2 lim wid) (hP : P 0 (zU (zCp D a2 0 a 0 ((lim * wid : Nat) : Int)) o 3 (zCp D a2 0 a 0 ((lim * wid : Nat) : Int) o2 3))) : zC miX3_take [zr o, zr o2] D P := by
  refine e_X3_take ?_
  simp only [tX3_take_0, w_ic, w_lc, w_lds, w_ild, w_lld, w_ald, w_ist, w_lst, w_ast, w_iinc, w_iadd, w_isub, w_imul, w_idiv, w_irem, w_iand, w_ior, w_ixor, w_ishl, w_ishr, w_iushr, w_ineg, w_ladd, w_lsub, w_lmul, w_ldiv, w_lrem, w_lcmp, w_i2l, w_l2i, w_dup, w_pop, w_dup2, w_ieq, w_zeq, w_ine, w_zne, w_ilt, w_zlt, w_ige, w_zge, w_igt, w_zgt, w_ile, w_zle, w_cut, w_tsw, zsw, w_iret, w_zret, w_lret, w_vret, w_nret, w_getI, w_getJ, w_getR, w_putI, w_putZ, w_putJ, w_iald, w_zald, w_iast, w_zast, w_alen, w_sI, w_sJ, w_sV, w_vI, w_vJ, w_vV, w_tI, w_mmax, w_mmin, w_mabs, w_lmax, w_acopy, gL, sL, kl_i, kl_l, kl_r, kl_s, kl_m, qI_i, qJ_l, qA_r, qA_s, pI_i, pJ_l, pA_r, pS_s, pM_m, pV_v, c1_i, c1_r, c1_s, c1_m, cS_0, cS_i, cS_l, cS_r, cS_s, cS_m, pN, z_rc_r, zE1, zE2, zE3, true_and, and_true, Nat.zero_add, Nat.reduceAdd, Nat.reduceLeDiff, true_or, or_true, hR.o, hR.f3, hR.fr, hR.zf, hR.row.o, hR2.o, hR2.f3, hR2.fr, hR2.zf, hR2.row.o]
  exact c_Row_take hR.row hR2.row hP
/-- 31 h + v, n times -/
def zmix : Nat → Int → (Int → Int) → Int
  | 0, h, _ => h
  | n + 1, h, f => z64 (z64 (31 * zmix n h f) + f n)
theorem c_Rows_mixInto {o r a lim wid : Nat} {h : Int} {D : Mem} {P : Int → Mem → Prop} (hR : zRows o r a lim wid) (hD : zRD D o lim wid) (hP : P (zmix (D o 3 * wid).toNat h (D a)) D) : zC miX3_mixInto [zr o, zl h] D P := by
  have hl : ((lim * wid : Nat) : Int) < 2000 := by have := hR.row.2.2.2.2; omega
  rw [Int.natCast_mul] at hl
  have hs0 : 0 ≤ D o 3 * wid := Int.mul_nonneg hD.2.2.1 (by omega)
  have hs1 : D o 3 * wid ≤ lim * wid := Int.mul_le_mul_of_nonneg_right hD.2.2.2 (by omega)
  refine e_X3_mixInto ?_
  simp only [tX3_mixInto_0, w_ic, w_lc, w_lds, w_ild, w_lld, w_ald, w_ist, w_lst, w_ast, w_iinc, w_iadd, w_isub, w_imul, w_idiv, w_irem, w_iand, w_ior, w_ixor, w_ishl, w_ishr, w_iushr, w_ineg, w_ladd, w_lsub, w_lmul, w_ldiv, w_lrem, w_lcmp, w_i2l, w_l2i, w_dup, w_pop, w_dup2, w_ieq, w_zeq, w_ine, w_zne, w_ilt, w_zlt, w_ige, w_zge, w_igt, w_zgt, w_ile, w_zle, w_cut, w_tsw, zsw, w_iret, w_zret, w_lret, w_vret, w_nret, w_getI, w_getJ, w_getR, w_putI, w_putZ, w_putJ, w_iald, w_zald, w_iast, w_zast, w_alen, w_sI, w_sJ, w_sV, w_vI, w_vJ, w_vV, w_tI, w_mmax, w_mmin, w_mabs, w_lmax, w_acopy, gL, sL, kl_i, kl_l, kl_r, kl_s, kl_m, qI_i, qJ_l, qA_r, qA_s, pI_i, pJ_l, pA_r, pS_s, pM_m, pV_v, c1_i, c1_r, c1_s, c1_m, cS_0, cS_i, cS_l, cS_r, cS_s, cS_m, pN, z_rc_r, zE1, zE2, zE3, true_and, and_true, Nat.zero_add, Nat.reduceAdd, Nat.reduceLeDiff, true_or, or_true, hR.o, hR.f3, hR.f1]
  have key : ∀ (m i : Nat), (D o 3 * wid).toNat - i = m → (i : Int) ≤ D o 3 * wid → zW miX3_mixInto P 5 [zr o, zl h, zm 1, zl (zmix i h (D a)), zm 1, zi i] D := by
    intro m
    induction m with
    | zero =>
      intro i hm hi
      refine sX3_mixInto_5 _ _ _ _ _ ?_
      simp only [tX3_mixInto_5, w_ic, w_lc, w_lds, w_ild, w_lld, w_ald, w_ist, w_lst, w_ast, w_iinc, w_iadd, w_isub, w_imul, w_idiv, w_irem, w_iand, w_ior, w_ixor, w_ishl, w_ishr, w_iushr, w_ineg, w_ladd, w_lsub, w_lmul, w_ldiv, w_lrem, w_lcmp, w_i2l, w_l2i, w_dup, w_pop, w_dup2, w_ieq, w_zeq, w_ine, w_zne, w_ilt, w_zlt, w_ige, w_zge, w_igt, w_zgt, w_ile, w_zle, w_cut, w_tsw, zsw, w_iret, w_zret, w_lret, w_vret, w_nret, w_getI, w_getJ, w_getR, w_putI, w_putZ, w_putJ, w_iald, w_zald, w_iast, w_zast, w_alen, w_sI, w_sJ, w_sV, w_vI, w_vJ, w_vV, w_tI, w_mmax, w_mmin, w_mabs, w_lmax, w_acopy, gL, sL, kl_i, kl_l, kl_r, kl_s, kl_m, qI_i, qJ_l, qA_r, qA_s, pI_i, pJ_l, pA_r, pS_s, pM_m, pV_v, c1_i, c1_r, c1_s, c1_m, cS_0, cS_i, cS_l, cS_r, cS_s, cS_m, pN, z_rc_r, zE1, zE2, zE3, true_and, and_true, Nat.zero_add, Nat.reduceAdd, Nat.reduceLeDiff, true_or, or_true, hR.o, hR.f3, hR.f1]
      rw [hD.2.1]
      have e : (D o 3 * wid).toNat = i := by omega
      rw [e] at hP
      exact ⟨⟨by omega, by omega⟩, fun _ => hP, fun w => absurd (by omega) w⟩
    | succ m ih =>
      intro i hm hi
      refine sX3_mixInto_5 _ _ _ _ _ ?_
      simp only [tX3_mixInto_5, w_ic, w_lc, w_lds, w_ild, w_lld, w_ald, w_ist, w_lst, w_ast, w_iinc, w_iadd, w_isub, w_imul, w_idiv, w_irem, w_iand, w_ior, w_ixor, w_ishl, w_ishr, w_iushr, w_ineg, w_ladd, w_lsub, w_lmul, w_ldiv, w_lrem, w_lcmp, w_i2l, w_l2i, w_dup, w_pop, w_dup2, w_ieq, w_zeq, w_ine, w_zne, w_ilt, w_zlt, w_ige, w_zge, w_igt, w_zgt, w_ile, w_zle, w_cut, w_tsw, zsw, w_iret, w_zret, w_lret, w_vret, w_nret, w_getI, w_getJ, w_getR, w_putI, w_putZ, w_putJ, w_iald, w_zald, w_iast, w_zast, w_alen, w_sI, w_sJ, w_sV, w_vI, w_vJ, w_vV, w_tI, w_mmax, w_mmin, w_mabs, w_lmax, w_acopy, gL, sL, kl_i, kl_l, kl_r, kl_s, kl_m, qI_i, qJ_l, qA_r, qA_s, pI_i, pJ_l, pA_r, pS_s, pM_m, pV_v, c1_i, c1_r, c1_s, c1_m, cS_0, cS_i, cS_l, cS_r, cS_s, cS_m, pN, z_rc_r, zE1, zE2, zE3, true_and, and_true, Nat.zero_add, Nat.reduceAdd, Nat.reduceLeDiff, true_or, or_true, hR.o, hR.f3, hR.f1, hR.fr, hR.zf, hR.row.o]
      rw [hD.2.1]
      refine ⟨⟨by omega, by omega⟩, fun w => absurd w (by omega), fun _ => ?_⟩
      refine c_Row_get hR.row (by omega) (by rw [Int.natCast_mul]; omega) ⟨⟨by omega, by omega⟩, ?_⟩
      exact ih (i + 1) (by omega) (by omega)
  exact key _ 0 rfl (by omega)
/-- what add puts -/
def zq4 (x1 x2 x3 x4 : Int) (j : Int) : Int := if j = 0 then x1 else if j = 1 then x2 else if j = 2 then x3 else if j = 3 then x4 else 0
theorem c_Rows_add {o r a lim wid : Nat} {x1 x2 x3 x4 : Int} {D : Mem} {P : Int → Mem → Prop} (hR : zRows o r a lim wid) (hD : zRD D o lim wid) (hl : D o 3 < lim) (hw : 2 ≤ wid)
    (hP : ∀ D', (∀ q, q ≠ o → q ≠ a → D' q = D q) → (∀ k : Int, k ≠ 3 → D' o k = D o k) → D' o 3 = D o 3 + 1 → (∀ j : Int, 0 ≤ j → j < wid → D' a (D o 3 * wid + j) = zq4 x1 x2 x3 x4 j) → (∀ j : Int, j < D o 3 * wid → D' a j = D a j) → P (D o 3) D') : zC miX3_add [zr o, zi x1, zi x2, zi x3, zi x4] D P := by
  have hlw := hR.lw
  have hb := zm_lt (i := D o 3) (c := 0) (w := wid) (l := lim) hD.2.2.1 hl (by omega) (by omega)
  have hoa : o ≠ a := hR.2.2.2
  have hll : (lim : Int) ≤ 2000 := by
    have h1 : (lim : Int) * 1 ≤ lim * wid := Int.mul_le_mul_of_nonneg_left (by omega) (by omega)
    omega
  have hn0 := hD.2.2.1
  refine e_X3_add ?_
  simp only [tX3_add_0, w_ic, w_lc, w_lds, w_ild, w_lld, w_ald, w_ist, w_lst, w_ast, w_iinc, w_iadd, w_isub, w_imul, w_idiv, w_irem, w_iand, w_ior, w_ixor, w_ishl, w_ishr, w_iushr, w_ineg, w_ladd, w_lsub, w_lmul, w_ldiv, w_lrem, w_lcmp, w_i2l, w_l2i, w_dup, w_pop, w_dup2, w_ieq, w_zeq, w_ine, w_zne, w_ilt, w_zlt, w_ige, w_zge, w_igt, w_zgt, w_ile, w_zle, w_cut, w_tsw, zsw, w_iret, w_zret, w_lret, w_vret, w_nret, w_getI, w_getJ, w_getR, w_putI, w_putZ, w_putJ, w_iald, w_zald, w_iast, w_zast, w_alen, w_sI, w_sJ, w_sV, w_vI, w_vJ, w_vV, w_tI, w_mmax, w_mmin, w_mabs, w_lmax, w_acopy, gL, sL, kl_i, kl_l, kl_r, kl_s, kl_m, qI_i, qJ_l, qA_r, qA_s, pI_i, pJ_l, pA_r, pS_s, pM_m, pV_v, c1_i, c1_r, c1_s, c1_m, cS_0, cS_i, cS_l, cS_r, cS_s, cS_m, pN, z_rc_r, zE1, zE2, zE3, true_and, and_true, Nat.zero_add, Nat.reduceAdd, Nat.reduceLeDiff, true_or, or_true, hR.o, hR.f3, hR.f0, hR.f1]
  refine c_Rows_isFull hR (fun w => absurd w (by rw [hD.1]; omega)) (fun _ => ?_)
  refine ⟨fun _ => ⟨⟨by omega, by omega⟩, ?_⟩, fun w => absurd rfl w⟩
  have RD : ∀ D2 : Mem, (∀ k : Int, k ≠ 3 → D2 o k = D o k) → D2 o 3 = D o 3 + 1 → zRD D2 o lim wid := fun D2 g2 g3 => ⟨by rw [g2 0 (by decide)]; exact hD.1, by rw [g2 1 (by decide)]; exact hD.2.1, by omega, by omega⟩
  have up : ∀ (E : Mem) (j k x : Int), zU E a (D o 3 * wid + j) x a (D o 3 * wid + k) = if k = j then x else E a (D o 3 * wid + k) := by
    intro E j k x
    by_cases e : k = j
    · rw [e, if_pos rfl, zU_s]
    · rw [if_neg e, zU_k (by omega)]
  -- the loop over what is left of the row
  have key : ∀ (m : Nat) (c : Int) (D1 : Mem), (wid - c).toNat = m → 4 ≤ c → (∀ q, q ≠ o → q ≠ a → D1 q = D q) → (∀ k : Int, k ≠ 3 → D1 o k = D o k) → D1 o 3 = D o 3 + 1 → (∀ j : Int, 4 ≤ j → j < c → j < wid → D1 a (D o 3 * wid + j) = 0) → (∀ j : Int, j < D o 3 * wid → D1 a j = D a j) → zW miX3_add P 28 [zr o, zi x1, zi x2, zi x3, zi x4, zi (D o 3), zi c] D1 := by
    intro m
    induction m with
    | zero =>
      intro c D1 hm hc h1 h2 h3 h4 h5
      have hD1 := RD D1 h2 h3
      refine sX3_add_28 _ _ _ _ _ ?_
      simp only [tX3_add_28, w_ic, w_lc, w_lds, w_ild, w_lld, w_ald, w_ist, w_lst, w_ast, w_iinc, w_iadd, w_isub, w_imul, w_idiv, w_irem, w_iand, w_ior, w_ixor, w_ishl, w_ishr, w_iushr, w_ineg, w_ladd, w_lsub, w_lmul, w_ldiv, w_lrem, w_lcmp, w_i2l, w_l2i, w_dup, w_pop, w_dup2, w_ieq, w_zeq, w_ine, w_zne, w_ilt, w_zlt, w_ige, w_zge, w_igt, w_zgt, w_ile, w_zle, w_cut, w_tsw, zsw, w_iret, w_zret, w_lret, w_vret, w_nret, w_getI, w_getJ, w_getR, w_putI, w_putZ, w_putJ, w_iald, w_zald, w_iast, w_zast, w_alen, w_sI, w_sJ, w_sV, w_vI, w_vJ, w_vV, w_tI, w_mmax, w_mmin, w_mabs, w_lmax, w_acopy, gL, sL, kl_i, kl_l, kl_r, kl_s, kl_m, qI_i, qJ_l, qA_r, qA_s, pI_i, pJ_l, pA_r, pS_s, pM_m, pV_v, c1_i, c1_r, c1_s, c1_m, cS_0, cS_i, cS_l, cS_r, cS_s, cS_m, pN, z_rc_r, zE1, zE2, zE3, true_and, and_true, Nat.zero_add, Nat.reduceAdd, Nat.reduceLeDiff, true_or, or_true, hR.o, hR.f3, hR.f0, hR.f1]
      rw [hD1.2.1]
      refine ⟨fun _ => ?_, fun w => absurd (by omega) w⟩
      have e0 : ∀ (E : Mem) (x y : Int), (zU E a x y) o = E o := fun E x y => zU_ne hoa
      refine c_Rows_set hR hD1 hD.2.2.1 (by omega) (by omega) (by omega) ?_
      refine c_Rows_set hR (hD1.of_eq (e0 _ _ _)) hD.2.2.1 (by rw [e0]; omega) (by omega) (by omega) ?_
      refine c_Rows_set' hR (hD1.of_eq (by rw [e0, e0])) hD.2.2.1 (by rw [e0, e0]; omega) (by omega) ?_
      have e3 : ∀ (E : Mem) (p : Prop) (x y : Int) [Decidable p], (if p then zU E a x y else E) o = E o := by
        intro E p x y _
        split
        · exact e0 _ _ _
        · rfl
      refine c_Rows_set' hR (hD1.of_eq (by rw [e3, e0, e0])) hD.2.2.1 (by rw [e3, e0, e0]; omega) (by omega) ?_
      have e4 : ∀ (E : Mem) (p : Prop) (q : Nat) (x y : Int) [Decidable p], q ≠ a → (if p then zU E a x y else E) q = E q := by
        intro E p q x y _ hq
        split
        · exact zU_ne hq
        · rfl
      have e5 : ∀ (E : Mem) (p : Prop) (j k y : Int) [Decidable p], (if p then zU E a (D o 3 * wid + j) y else E) a (D o 3 * wid + k) = if p ∧ k = j then y else E a (D o 3 * wid + k) := by
        intro E p j k y _
        by_cases hp : p
        · rw [if_pos hp, up]
          by_cases hk : k = j
          · rw [if_pos hk, if_pos ⟨hp, hk⟩]
          · rw [if_neg hk, if_neg (fun w => hk w.2)]
        · rw [if_neg hp, if_neg (fun w => hp w.1)]
      have e6 : ∀ (E : Mem) (p : Prop) (j k y : Int) [Decidable p], 0 ≤ j → k < D o 3 * wid → (if p then zU E a (D o 3 * wid + j) y else E) a k = E a k := by
        intro E p j k y _ hj hk
        split
        · exact zU_k (by omega)
        · rfl
      refine hP _ (fun q q1 q2 => ?_) (fun k hk => ?_) ?_ (fun j j0 j1 => ?_) (fun j hj => ?_)
      · rw [e4 _ _ _ _ _ q2, e4 _ _ _ _ _ q2, zU_ne q2, zU_ne q2]
        exact h1 q q1 q2
      · rw [e4 _ _ _ _ _ hoa, e4 _ _ _ _ _ hoa, zU_ne hoa, zU_ne hoa]
        exact h2 k hk
      · rw [e4 _ _ _ _ _ hoa, e4 _ _ _ _ _ hoa, zU_ne hoa, zU_ne hoa]
        exact h3
      · rw [e5, e5, up, up]
        unfold zq4
        by_cases k3 : j = 3
        · rw [if_pos (show (3 : Int) < wid ∧ j = 3 from ⟨by omega, k3⟩), if_neg (show ¬ j = 0 by omega), if_neg (show ¬ j = 1 by omega), if_neg (show ¬ j = 2 by omega), if_pos k3]
        · rw [if_neg (fun w => k3 w.2)]
          by_cases k2 : j = 2
          · rw [if_pos (show (2 : Int) < wid ∧ j = 2 from ⟨by omega, k2⟩), if_neg (show ¬ j = 0 by omega), if_neg (show ¬ j = 1 by omega), if_pos k2]
          · rw [if_neg (fun w => k2 w.2)]
            by_cases k1 : j = 1
            · rw [if_pos k1, if_neg (show ¬ j = 0 by omega), if_pos k1]
            · rw [if_neg k1]
              by_cases k0 : j = 0
              · rw [if_pos k0, if_pos k0]
              · rw [if_neg k0, if_neg k0, if_neg k1, if_neg k2, if_neg k3]
                exact h4 j (by omega) (by omega) j1
      · rw [e6 _ _ _ _ _ (by decide) hj, e6 _ _ _ _ _ (by decide) hj, zU_k (by omega), zU_k (by omega)]
        exact h5 j hj
    | succ m ih =>
      intro c D1 hm hc h1 h2 h3 h4 h5
      have hD1 := RD D1 h2 h3
      have hww : (wid : Int) < 2000 := by
        have h1 : (1 : Int) * wid ≤ lim * wid := Int.mul_le_mul_of_nonneg_right (by omega) (by omega)
        omega
      refine sX3_add_28 _ _ _ _ _ ?_
      simp only [tX3_add_28, w_ic, w_lc, w_lds, w_ild, w_lld, w_ald, w_ist, w_lst, w_ast, w_iinc, w_iadd, w_isub, w_imul, w_idiv, w_irem, w_iand, w_ior, w_ixor, w_ishl, w_ishr, w_iushr, w_ineg, w_ladd, w_lsub, w_lmul, w_ldiv, w_lrem, w_lcmp, w_i2l, w_l2i, w_dup, w_pop, w_dup2, w_ieq, w_zeq, w_ine, w_zne, w_ilt, w_zlt, w_ige, w_zge, w_igt, w_zgt, w_ile, w_zle, w_cut, w_tsw, zsw, w_iret, w_zret, w_lret, w_vret, w_nret, w_getI, w_getJ, w_getR, w_putI, w_putZ, w_putJ, w_iald, w_zald, w_iast, w_zast, w_alen, w_sI, w_sJ, w_sV, w_vI, w_vJ, w_vV, w_tI, w_mmax, w_mmin, w_mabs, w_lmax, w_acopy, gL, sL, kl_i, kl_l, kl_r, kl_s, kl_m, qI_i, qJ_l, qA_r, qA_s, pI_i, pJ_l, pA_r, pS_s, pM_m, pV_v, c1_i, c1_r, c1_s, c1_m, cS_0, cS_i, cS_l, cS_r, cS_s, cS_m, pN, z_rc_r, zE1, zE2, zE3, true_and, and_true, Nat.zero_add, Nat.reduceAdd, Nat.reduceLeDiff, true_or, or_true, hR.o, hR.f3, hR.f0, hR.f1]
      rw [hD1.2.1]
      refine ⟨fun w => absurd w (by omega), fun _ => ?_⟩
      refine c_Rows_set hR hD1 hD.2.2.1 (by omega) (by omega) (by omega) ⟨⟨by omega, by omega⟩, ?_⟩
      refine ih (c + 1) _ (by omega) (by omega) (fun q q1 q2 => ?_) (fun k hk => ?_) ?_ (fun j j0 j1 j2 => ?_) (fun j hj => ?_)
      · rw [zU_ne q2]; exact h1 q q1 q2
      · rw [zU_ne hoa]; exact h2 k hk
      · rw [zU_ne hoa]; exact h3
      · rw [up]
        by_cases e : j = c
        · rw [if_pos e]
        · rw [if_neg e]; exact h4 j j0 (by omega) j2
      · rw [zU_k (by omega)]; exact h5 j hj
  refine key _ 4 _ rfl (by omega) (fun q q1 q2 => zU_ne q1) (fun k hk => zU_k hk) zU_s (fun j j0 j1 => by omega) (fun j hj => ?_)
  rw [zU_ne (Ne.symm hoa)]
theorem c_Rows_dropFirst {o r a lim wid : Nat} {D : Mem} {P : Int → Mem → Prop} (hR : zRows o r a lim wid) (hD : zRD D o lim wid) (hl : 0 < D o 3) (hw : 1 ≤ wid)
    (hP : ∀ D', (∀ q, q ≠ o → q ≠ a → D' q = D q) → (∀ k : Int, k ≠ 3 → D' o k = D o k) → D' o 3 = D o 3 - 1 → (∀ j : Int, 0 ≤ j → j < (D o 3 - 1) * wid → D' a j = D a (j + wid)) → P 0 D') : zC miX3_dropFirst [zr o] D P := by
  have hlw := hR.lw
  have hoa : o ≠ a := hR.2.2.2
  have hs1 : D o 3 * wid ≤ lim * wid := Int.mul_le_mul_of_nonneg_right hD.2.2.2 (by omega)
  have hs0 : 1 * (wid : Int) ≤ D o 3 * wid := Int.mul_le_mul_of_nonneg_right (by omega) (by omega)
  have hll : (lim : Int) ≤ 2000 := by
    have h1 : (lim : Int) * 1 ≤ lim * wid := Int.mul_le_mul_of_nonneg_left (by omega) (by omega)
    omega
  have hsub : (D o 3 - 1) * wid = D o 3 * wid - wid := by rw [Int.sub_mul, Int.one_mul]
  have key : ∀ (m : Nat) (i : Int) (D1 : Mem), (D o 3 * wid - i).toNat = m → wid ≤ i → i ≤ D o 3 * wid → (∀ q, q ≠ a → D1 q = D q) → (∀ j : Int, 0 ≤ j → j < i - wid → D1 a j = D a (j + wid)) → (∀ j : Int, i - wid ≤ j → D1 a j = D a j) → zW miX3_dropFirst P 5 [zr o, zi i] D1 := by
    intro m
    induction m with
    | zero =>
      intro i D1 hm hi0 hi h1 h2 h3
      have hD1 := hD.of_eq (h1 o hoa)
      have e3 : D1 o 3 = D o 3 := by rw [h1 o hoa]
      refine sX3_dropFirst_5 _ _ _ _ _ ?_
      simp only [tX3_dropFirst_5, w_ic, w_lc, w_lds, w_ild, w_lld, w_ald, w_ist, w_lst, w_ast, w_iinc, w_iadd, w_isub, w_imul, w_idiv, w_irem, w_iand, w_ior, w_ixor, w_ishl, w_ishr, w_iushr, w_ineg, w_ladd, w_lsub, w_lmul, w_ldiv, w_lrem, w_lcmp, w_i2l, w_l2i, w_dup, w_pop, w_dup2, w_ieq, w_zeq, w_ine, w_zne, w_ilt, w_zlt, w_ige, w_zge, w_igt, w_zgt, w_ile, w_zle, w_cut, w_tsw, zsw, w_iret, w_zret, w_lret, w_vret, w_nret, w_getI, w_getJ, w_getR, w_putI, w_putZ, w_putJ, w_iald, w_zald, w_iast, w_zast, w_alen, w_sI, w_sJ, w_sV, w_vI, w_vJ, w_vV, w_tI, w_mmax, w_mmin, w_mabs, w_lmax, w_acopy, gL, sL, kl_i, kl_l, kl_r, kl_s, kl_m, qI_i, qJ_l, qA_r, qA_s, pI_i, pJ_l, pA_r, pS_s, pM_m, pV_v, c1_i, c1_r, c1_s, c1_m, cS_0, cS_i, cS_l, cS_r, cS_s, cS_m, pN, z_rc_r, zE1, zE2, zE3, true_and, and_true, Nat.zero_add, Nat.reduceAdd, Nat.reduceLeDiff, true_or, or_true, hR.o, hR.f3, hR.f0, hR.f1, hR.fr, hR.zf, hR.row.o]
      rw [hD1.2.1, e3]
      refine ⟨⟨by omega, by omega⟩, fun _ => ?_, fun w => absurd (by omega) w⟩
      have hn3 := hD.2.2.2
      refine c_Rows_dropLast hR (by omega) (by omega) ?_
      refine hP _ (fun q q1 q2 => ?_) (fun k hk => ?_) ?_ (fun j j0 j1 => ?_)
      · rw [zU_ne q1]; exact h1 q q2
      · rw [zU_k hk, h1 o hoa]
      · rw [zU_s, e3]; omega
      · rw [zU_ne (Ne.symm hoa)]; exact h2 j j0 (by omega)
    | succ m ih =>
      intro i D1 hm hi0 hi h1 h2 h3
      have hD1 := hD.of_eq (h1 o hoa)
      have e3 : D1 o 3 = D o 3 := by rw [h1 o hoa]
      refine sX3_dropFirst_5 _ _ _ _ _ ?_
      simp only [tX3_dropFirst_5, w_ic, w_lc, w_lds, w_ild, w_lld, w_ald, w_ist, w_lst, w_ast, w_iinc, w_iadd, w_isub, w_imul, w_idiv, w_irem, w_iand, w_ior, w_ixor, w_ishl, w_ishr, w_iushr, w_ineg, w_ladd, w_lsub, w_lmul, w_ldiv, w_lrem, w_lcmp, w_i2l, w_l2i, w_dup, w_pop, w_dup2, w_ieq, w_zeq, w_ine, w_zne, w_ilt, w_zlt, w_ige, w_zge, w_igt, w_zgt, w_ile, w_zle, w_cut, w_tsw, zsw, w_iret, w_zret, w_lret, w_vret, w_nret, w_getI, w_getJ, w_getR, w_putI, w_putZ, w_putJ, w_iald, w_zald, w_iast, w_zast, w_alen, w_sI, w_sJ, w_sV, w_vI, w_vJ, w_vV, w_tI, w_mmax, w_mmin, w_mabs, w_lmax, w_acopy, gL, sL, kl_i, kl_l, kl_r, kl_s, kl_m, qI_i, qJ_l, qA_r, qA_s, pI_i, pJ_l, pA_r, pS_s, pM_m, pV_v, c1_i, c1_r, c1_s, c1_m, cS_0, cS_i, cS_l, cS_r, cS_s, cS_m, pN, z_rc_r, zE1, zE2, zE3, true_and, and_true, Nat.zero_add, Nat.reduceAdd, Nat.reduceLeDiff, true_or, or_true, hR.o, hR.f3, hR.f0, hR.f1, hR.fr, hR.zf, hR.row.o]
      rw [hD1.2.1, e3]
      refine ⟨⟨by omega, by omega⟩, fun w => absurd w (by omega), fun _ => ⟨⟨by omega, by omega⟩, ?_⟩⟩
      refine c_Row_get hR.row (by omega) (by rw [Int.natCast_mul]; omega) ?_
      refine c_Row_set hR.row (by omega) (by rw [Int.natCast_mul]; omega) ⟨⟨by omega, by omega⟩, ?_⟩
      refine ih (i + 1) _ (by omega) (by omega) (by omega) (fun q q1 => ?_) (fun j j0 j1 => ?_) (fun j j0 => ?_)
      · rw [zU_ne q1]; exact h1 q q1
      · by_cases e : j = i - wid
        · rw [e, zU_s, h3 i (by omega)]
          congr 1
          omega
        · rw [zU_k e]; exact h2 j j0 (by omega)
      · rw [zU_k (by omega)]; exact h3 j (by omega)
  refine e_X3_dropFirst ?_
  simp only [tX3_dropFirst_0, w_ic, w_lc, w_lds, w_ild, w_lld, w_ald, w_ist, w_lst, w_ast, w_iinc, w_iadd, w_isub, w_imul, w_idiv, w_irem, w_iand, w_ior, w_ixor, w_ishl, w_ishr, w_iushr, w_ineg, w_ladd, w_lsub, w_lmul, w_ldiv, w_lrem, w_lcmp, w_i2l, w_l2i, w_dup, w_pop, w_dup2, w_ieq, w_zeq, w_ine, w_zne, w_ilt, w_zlt, w_ige, w_zge, w_igt, w_zgt, w_ile, w_zle, w_cut, w_tsw, zsw, w_iret, w_zret, w_lret, w_vret, w_nret, w_getI, w_getJ, w_getR, w_putI, w_putZ, w_putJ, w_iald, w_zald, w_iast, w_zast, w_alen, w_sI, w_sJ, w_sV, w_vI, w_vJ, w_vV, w_tI, w_mmax, w_mmin, w_mabs, w_lmax, w_acopy, gL, sL, kl_i, kl_l, kl_r, kl_s, kl_m, qI_i, qJ_l, qA_r, qA_s, pI_i, pJ_l, pA_r, pS_s, pM_m, pV_v, c1_i, c1_r, c1_s, c1_m, cS_0, cS_i, cS_l, cS_r, cS_s, cS_m, pN, z_rc_r, zE1, zE2, zE3, true_and, and_true, Nat.zero_add, Nat.reduceAdd, Nat.reduceLeDiff, true_or, or_true, hR.o, hR.f3, hR.f0, hR.f1, hR.fr, hR.zf, hR.row.o]
  rw [hD.2.1]
  exact key _ _ _ rfl (by omega) (by omega) (fun _ _ => rfl) (fun j j0 j1 => by omega) (fun _ _ => rfl)
