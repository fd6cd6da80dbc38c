/-! ===== 18: the class's Ways ===== -/
/-- the cell at a side, -1: none; m: the cells from which ladders lead up -/
def sBs (m c s : Int) : Int := if s = 0 then (if 4 ≤ c ∧ bA (bR m (c - 4)) 1 = 1 then c - 4 else -1) else if s = 1 then (if 0 < c % 4 then c - 1 else -1) else if s = 2 then (if c % 4 < 3 then c + 1 else -1) else (if c < 16 ∧ bA (bR m c) 1 = 1 then c + 4 else -1)
def zM (m : Int) : Prop := 0 ≤ m ∧ m < 65536
theorem sBs_in {m c s : Int} (hm : zM m) (hc : inC c) (h : sBs m c s ≠ -1) : inC (sBs m c s) ∧ adjO (zB m) c (sBs m c s) := by
  obtain ⟨m0, m1⟩ := hm
  obtain ⟨c0, c1⟩ := hc
  unfold sBs at h ⊢
  unfold adjO inC
  by_cases s0 : s = 0
  · rw [if_pos s0] at h ⊢
    by_cases q : 4 ≤ c ∧ bA (bR m (c - 4)) 1 = 1
    · rw [if_pos q]
      have := (zB_iff m0 (by omega) (by omega) (by omega)).mp q.2
      exact ⟨by omega, Or.inr (Or.inr (Or.inr ⟨by omega, this⟩))⟩
    · rw [if_neg q] at h; exact absurd rfl h
  · rw [if_neg s0] at h ⊢
    by_cases s1 : s = 1
    · rw [if_pos s1] at h ⊢
      by_cases q : 0 < c % 4
      · rw [if_pos q]
        exact ⟨by omega, Or.inr (Or.inl ⟨by omega, by omega⟩)⟩
      · rw [if_neg q] at h; exact absurd rfl h
    · rw [if_neg s1] at h ⊢
      by_cases s2 : s = 2
      · rw [if_pos s2] at h ⊢
        by_cases q : c % 4 < 3
        · rw [if_pos q]
          exact ⟨by omega, Or.inl ⟨by omega, by omega⟩⟩
        · rw [if_neg q] at h; exact absurd rfl h
      · rw [if_neg s2] at h ⊢
        by_cases q : c < 16 ∧ bA (bR m c) 1 = 1
        · rw [if_pos q]
          have := (zB_iff m0 (by omega) (by omega) (by omega)).mp q.2
          exact ⟨by omega, Or.inr (Or.inr (Or.inl ⟨by omega, this⟩))⟩
        · rw [if_neg q] at h; exact absurd rfl h
theorem sBs_all {m c b : Int} (hm : zM m) (hc : inC c) (hb : inC b) (h : adjO (zB m) c b) : ∃ s, 0 ≤ s ∧ s < 4 ∧ sBs m c s = b := by
  obtain ⟨m0, m1⟩ := hm
  obtain ⟨c0, c1⟩ := hc
  obtain ⟨b0, b1⟩ := hb
  rcases h with ⟨h1, h2⟩ | ⟨h1, h2⟩ | ⟨h1, h2⟩ | ⟨h1, h2⟩
  · refine ⟨2, by omega, by omega, ?_⟩
    unfold sBs
    rw [if_neg (by omega), if_neg (by omega), if_pos rfl, if_pos (by omega), h1]
  · refine ⟨1, by omega, by omega, ?_⟩
    unfold sBs
    rw [if_neg (by omega), if_pos rfl, if_pos (by omega)]
    omega
  · refine ⟨3, by omega, by omega, ?_⟩
    unfold sBs
    rw [if_neg (by omega), if_neg (by omega), if_neg (by omega), if_pos ⟨by omega, (zB_iff m0 (by omega) (by omega) (by omega)).mpr h2⟩, h1]
  · refine ⟨0, by omega, by omega, ?_⟩
    unfold sBs
    have e : c - 4 = b := by omega
    rw [if_pos rfl, if_pos ⟨by omega, by rw [e]; exact (zB_iff m0 (by omega) (by omega) (by omega)).mpr h2⟩, e]
theorem sBs_lt {m c s s' : Int} (h0 : 0 ≤ s) (h1 : s < s') (h2 : s' < 4) (g : sBs m c s ≠ -1) (g' : sBs m c s' ≠ -1) : sBs m c s < sBs m c s' := by
  have c1 : sBs m c s ≤ (if s = 0 then c - 4 else if s = 1 then c - 1 else if s = 2 then c + 1 else c + 4) := by
    unfold sBs at g ⊢
    split
    · rename_i q; rw [if_pos q] at g; split <;> simp_all
    · rename_i q; rw [if_neg q] at g; split
      · rename_i q; rw [if_pos q] at g; split <;> simp_all
      · rename_i q; rw [if_neg q] at g; split
        · rename_i q; rw [if_pos q] at g; split <;> simp_all
        · rename_i q; rw [if_neg q] at g; split <;> simp_all
  have c2 : (if s' = 0 then c - 4 else if s' = 1 then c - 1 else if s' = 2 then c + 1 else c + 4) ≤ sBs m c s' := by
    unfold sBs at g' ⊢
    split
    · rename_i q; rw [if_pos q] at g'; split <;> simp_all
    · rename_i q; rw [if_neg q] at g'; split
      · rename_i q; rw [if_pos q] at g'; split <;> simp_all
      · rename_i q; rw [if_neg q] at g'; split
        · rename_i q; rw [if_pos q] at g'; split <;> simp_all
        · rename_i q; rw [if_neg q] at g'; split <;> simp_all
  have c3 : (if s = 0 then c - 4 else if s = 1 then c - 1 else if s = 2 then c + 1 else c + 4) < (if s' = 0 then c - 4 else if s' = 1 then c - 1 else if s' = 2 then c + 1 else c + 4) := by
    repeat' split
    all_goals omega
  omega
theorem c_beside {b : Nat} {c s : Int} {D : Mem} {P : Int → Mem → Prop} (hb : zBk b) (hm : zM (D (b + 22) 3)) (hc : inC c) (s0 : 0 ≤ s) (s1 : s < 4) (hP : P (sBs (D (b + 22) 3) c s) D) : zC miX4_beside [zr (b + 22), zi c, zi s] D P := by
  obtain ⟨c0, c1⟩ := hc
  have bit := fun k hk0 hk1 => zB_bit (m := D (b + 22) 3) hm.1 (by have := hm.2; omega) k hk0 hk1
  refine e_X4_beside ?_
  simp only [tX4_beside_0, w_ic, w_lc, w_lds, w_ild, w_lld, w_ald, w_ist, w_lst, w_ast, w_iinc, w_iadd, w_isub, w_imul, w_idiv, w_irem, w_iand, w_ior, w_ixor, w_ishl, w_ishr, w_iushr, w_ineg, w_ladd, w_lsub, w_lmul, w_ldiv, w_lrem, w_lcmp, w_i2l, w_l2i, w_dup, w_pop, w_dup2, w_ieq, w_zeq, w_ine, w_zne, w_ilt, w_zlt, w_ige, w_zge, w_igt, w_zgt, w_ile, w_zle, w_cut, w_tsw, zsw, w_iret, w_zret, w_lret, w_vret, w_nret, w_getI, w_getJ, w_getR, w_putI, w_putZ, w_putJ, w_iald, w_zald, w_iast, w_zast, w_alen, w_sI, w_sJ, w_sV, w_vI, w_vJ, w_vV, w_tI, w_mmax, w_mmin, w_mabs, w_lmax, w_acopy, gL, sL, kl_i, kl_l, kl_r, kl_s, kl_m, qI_i, qJ_l, qA_r, qA_s, pI_i, pJ_l, pA_r, pS_s, pM_m, pV_v, c1_i, c1_r, c1_s, c1_m, cS_0, cS_i, cS_l, cS_r, cS_s, cS_m, pN, z_rc_r, zE1, zE2, zE3, true_and, and_true, Nat.zero_add, Nat.reduceAdd, Nat.reduceLeDiff, true_or, or_true]
  unfold sBs at hP
  refine ⟨⟨fun h => ?_, fun h => ?_, fun h => ?_⟩, fun h => ?_⟩
  · refine sX4_beside_28 _ _ _ _ _ ?_
    simp only [tX4_beside_28, w_ic, w_lc, w_lds, w_ild, w_lld, w_ald, w_ist, w_lst, w_ast, w_iinc, w_iadd, w_isub, w_imul, w_idiv, w_irem, w_iand, w_ior, w_ixor, w_ishl, w_ishr, w_iushr, w_ineg, w_ladd, w_lsub, w_lmul, w_ldiv, w_lrem, w_lcmp, w_i2l, w_l2i, w_dup, w_pop, w_dup2, w_ieq, w_zeq, w_ine, w_zne, w_ilt, w_zlt, w_ige, w_zge, w_igt, w_zgt, w_ile, w_zle, w_cut, w_tsw, zsw, w_iret, w_zret, w_lret, w_vret, w_nret, w_getI, w_getJ, w_getR, w_putI, w_putZ, w_putJ, w_iald, w_zald, w_iast, w_zast, w_alen, w_sI, w_sJ, w_sV, w_vI, w_vJ, w_vV, w_tI, w_mmax, w_mmin, w_mabs, w_lmax, w_acopy, gL, sL, kl_i, kl_l, kl_r, kl_s, kl_m, qI_i, qJ_l, qA_r, qA_s, pI_i, pJ_l, pA_r, pS_s, pM_m, pV_v, c1_i, c1_r, c1_s, c1_m, cS_0, cS_i, cS_l, cS_r, cS_s, cS_m, pN, z_rc_r, zE1, zE2, zE3, true_and, and_true, Nat.zero_add, Nat.reduceAdd, Nat.reduceLeDiff, true_or, or_true, hb.wo, hb.wp]
    rw [if_pos h] at hP
    refine ⟨fun q => ?_, fun q => ⟨⟨by omega, by omega⟩, fun q2 => ?_, fun q2 => ⟨⟨by omega, by omega⟩, ?_⟩⟩⟩
    · rw [if_neg (by omega)] at hP; exact hP
    · rw [if_neg (fun w => q2 w.2)] at hP; exact hP
    · rw [if_pos ⟨by omega, by omega⟩] at hP; exact hP
  · refine sX4_beside_55 _ _ _ _ _ ?_
    simp only [tX4_beside_55, w_ic, w_lc, w_lds, w_ild, w_lld, w_ald, w_ist, w_lst, w_ast, w_iinc, w_iadd, w_isub, w_imul, w_idiv, w_irem, w_iand, w_ior, w_ixor, w_ishl, w_ishr, w_iushr, w_ineg, w_ladd, w_lsub, w_lmul, w_ldiv, w_lrem, w_lcmp, w_i2l, w_l2i, w_dup, w_pop, w_dup2, w_ieq, w_zeq, w_ine, w_zne, w_ilt, w_zlt, w_ige, w_zge, w_igt, w_zgt, w_ile, w_zle, w_cut, w_tsw, zsw, w_iret, w_zret, w_lret, w_vret, w_nret, w_getI, w_getJ, w_getR, w_putI, w_putZ, w_putJ, w_iald, w_zald, w_iast, w_zast, w_alen, w_sI, w_sJ, w_sV, w_vI, w_vJ, w_vV, w_tI, w_mmax, w_mmin, w_mabs, w_lmax, w_acopy, gL, sL, kl_i, kl_l, kl_r, kl_s, kl_m, qI_i, qJ_l, qA_r, qA_s, pI_i, pJ_l, pA_r, pS_s, pM_m, pV_v, c1_i, c1_r, c1_s, c1_m, cS_0, cS_i, cS_l, cS_r, cS_s, cS_m, pN, z_rc_r, zE1, zE2, zE3, true_and, and_true, Nat.zero_add, Nat.reduceAdd, Nat.reduceLeDiff, true_or, or_true]
    rw [if_neg (by omega), if_pos (by omega)] at hP
    refine ⟨⟨by omega, by omega⟩, fun q => ?_, fun q => ⟨⟨by omega, by omega⟩, ?_⟩⟩
    · rw [if_neg (by omega)] at hP; exact hP
    · rw [if_pos (by omega)] at hP; exact hP
  · refine sX4_beside_69 _ _ _ _ _ ?_
    simp only [tX4_beside_69, w_ic, w_lc, w_lds, w_ild, w_lld, w_ald, w_ist, w_lst, w_ast, w_iinc, w_iadd, w_isub, w_imul, w_idiv, w_irem, w_iand, w_ior, w_ixor, w_ishl, w_ishr, w_iushr, w_ineg, w_ladd, w_lsub, w_lmul, w_ldiv, w_lrem, w_lcmp, w_i2l, w_l2i, w_dup, w_pop, w_dup2, w_ieq, w_zeq, w_ine, w_zne, w_ilt, w_zlt, w_ige, w_zge, w_igt, w_zgt, w_ile, w_zle, w_cut, w_tsw, zsw, w_iret, w_zret, w_lret, w_vret, w_nret, w_getI, w_getJ, w_getR, w_putI, w_putZ, w_putJ, w_iald, w_zald, w_iast, w_zast, w_alen, w_sI, w_sJ, w_sV, w_vI, w_vJ, w_vV, w_tI, w_mmax, w_mmin, w_mabs, w_lmax, w_acopy, gL, sL, kl_i, kl_l, kl_r, kl_s, kl_m, qI_i, qJ_l, qA_r, qA_s, pI_i, pJ_l, pA_r, pS_s, pM_m, pV_v, c1_i, c1_r, c1_s, c1_m, cS_0, cS_i, cS_l, cS_r, cS_s, cS_m, pN, z_rc_r, zE1, zE2, zE3, true_and, and_true, Nat.zero_add, Nat.reduceAdd, Nat.reduceLeDiff, true_or, or_true]
    rw [if_neg (by omega), if_neg (by omega), if_pos (by omega)] at hP
    refine ⟨⟨by omega, by omega⟩, fun q => ?_, fun q => ⟨⟨by omega, by omega⟩, ?_⟩⟩
    · rw [if_neg (by omega)] at hP; exact hP
    · rw [if_pos (by omega)] at hP; exact hP
  · refine sX4_beside_84 _ _ _ _ _ ?_
    simp only [tX4_beside_84, w_ic, w_lc, w_lds, w_ild, w_lld, w_ald, w_ist, w_lst, w_ast, w_iinc, w_iadd, w_isub, w_imul, w_idiv, w_irem, w_iand, w_ior, w_ixor, w_ishl, w_ishr, w_iushr, w_ineg, w_ladd, w_lsub, w_lmul, w_ldiv, w_lrem, w_lcmp, w_i2l, w_l2i, w_dup, w_pop, w_dup2, w_ieq, w_zeq, w_ine, w_zne, w_ilt, w_zlt, w_ige, w_zge, w_igt, w_zgt, w_ile, w_zle, w_cut, w_tsw, zsw, w_iret, w_zret, w_lret, w_vret, w_nret, w_getI, w_getJ, w_getR, w_putI, w_putZ, w_putJ, w_iald, w_zald, w_iast, w_zast, w_alen, w_sI, w_sJ, w_sV, w_vI, w_vJ, w_vV, w_tI, w_mmax, w_mmin, w_mabs, w_lmax, w_acopy, gL, sL, kl_i, kl_l, kl_r, kl_s, kl_m, qI_i, qJ_l, qA_r, qA_s, pI_i, pJ_l, pA_r, pS_s, pM_m, pV_v, c1_i, c1_r, c1_s, c1_m, cS_0, cS_i, cS_l, cS_r, cS_s, cS_m, pN, z_rc_r, zE1, zE2, zE3, true_and, and_true, Nat.zero_add, Nat.reduceAdd, Nat.reduceLeDiff, true_or, or_true, hb.wo, hb.wp]
    have h' : s = 3 := by
      have : ([28, 55, 69] : List Nat).length = 3 := rfl
      omega
    rw [if_neg (by omega), if_neg (by omega), if_neg (by omega)] at hP
    refine ⟨fun q => ?_, fun q => ⟨fun q2 => ?_, fun q2 => ⟨⟨by omega, by omega⟩, ?_⟩⟩⟩
    · rw [if_neg (by omega)] at hP; exact hP
    · rw [if_neg (fun w => q2 w.2)] at hP; exact hP
    · rw [if_pos ⟨by omega, by omega⟩] at hP; exact hP
/-- what the ways keep is so -/
def WY (D : Mem) (b : Nat) : Prop := (0 ≤ D (b + 22) 2 ∧ D (b + 22) 2 < 1048576) ∧ zM (D (b + 22) 3) ∧ ∀ g, inC g → zB (D (b + 22) 2) g → ∀ c, inC c → D (b + 24) (g * 20 + c) = sD (zB (D (b + 22) 3)) g c
theorem c_lay {b : Nat} {m : Int} {D : Mem} {P : Int → Mem → Prop} (hb : zBk b) (hW : WY D b) (hm : zM m) (hP : ∀ D', Fr (b + 22) (b + 27) D D' → WY D' b → D' (b + 22) 3 = m → P 0 D') : zC miX4_lay [zr (b + 22), zi m] D P := by
  refine e_X4_lay ?_
  simp only [tX4_lay_0, w_ic, w_lc, w_lds, w_ild, w_lld, w_ald, w_ist, w_lst, w_ast, w_iinc, w_iadd, w_isub, w_imul, w_idiv, w_irem, w_iand, w_ior, w_ixor, w_ishl, w_ishr, w_iushr, w_ineg, w_ladd, w_lsub, w_lmul, w_ldiv, w_lrem, w_lcmp, w_i2l, w_l2i, w_dup, w_pop, w_dup2, w_ieq, w_zeq, w_ine, w_zne, w_ilt, w_zlt, w_ige, w_zge, w_igt, w_zgt, w_ile, w_zle, w_cut, w_tsw, zsw, w_iret, w_zret, w_lret, w_vret, w_nret, w_getI, w_getJ, w_getR, w_putI, w_putZ, w_putJ, w_iald, w_zald, w_iast, w_zast, w_alen, w_sI, w_sJ, w_sV, w_vI, w_vJ, w_vV, w_tI, w_mmax, w_mmin, w_mabs, w_lmax, w_acopy, gL, sL, kl_i, kl_l, kl_r, kl_s, kl_m, qI_i, qJ_l, qA_r, qA_s, pI_i, pJ_l, pA_r, pS_s, pM_m, pV_v, c1_i, c1_r, c1_s, c1_m, cS_0, cS_i, cS_l, cS_r, cS_s, cS_m, pN, z_rc_r, zE1, zE2, zE3, true_and, and_true, Nat.zero_add, Nat.reduceAdd, Nat.reduceLeDiff, true_or, or_true, hb.wo, hb.wp, hb.wk]
  refine ⟨fun h => ?_, fun h => ?_⟩
  · have e3 : zU (zU D (b + 22) 3 m) (b + 22) 2 0 (b + 22) 3 = m := by rw [zU_k (by decide), zU_s]
    refine hP _ ((Fr.up (by omega) (by omega)).trans (Fr.up (by omega) (by omega))) ⟨by rw [zU_s]; omega, by rw [e3]; exact hm, fun g hg hz => ?_⟩ e3
    rw [zU_s] at hz
    exact absurd hz (zB_0 g)
  · exact hP D Fr.rfl hW (by omega)
theorem zU_fU {D : Mem} {o : Nat} {k x : Int} : zU D o k x o = fU (D o) k x := by
  funext j
  simp [zU, fU]
theorem zU_off {D : Mem} {o : Nat} {r k x : Int} : (fun c => zU D o (r + k) x o (r + c)) = fU (fun c => D o (r + c)) k x := by
  funext c
  by_cases e : c = k
  · rw [e, zU_s, fU_s]
  · rw [zU_k (by omega), fU_n e]
theorem bI_one {adj : Int → Int → Prop} {gl : Int} {d q : Int → Int} (hg : inC gl) (ev : ∀ x, inC x → d x = if x = gl then 0 else -1) (eq : q 0 = gl) : bI adj (fun x => x = gl) (-1) d q 0 1 := by
  refine ⟨⟨by omega, by omega, ?_⟩, ?_, ?_, ?_, ?_, ?_, ?_⟩
  · have a1 : zcn (-1) (fun _ => -1) 20 = 0 := by decide
    have a2 := zcn_up (-1) (d := fun _ => -1) (d' := fun x => if x = gl then 0 else -1) hg.1 rfl (by rw [if_pos rfl]; decide) (fun c hc => if_neg hc) 20 hg.2
    rw [a1] at a2
    rw [zcn_eq (-1) (d' := fun x => if x = gl then 0 else -1) 20 (fun k hk => ev k ⟨by omega, by omega⟩), a2]
    rfl
  · intro i i0 i1
    have : i = 0 := by omega
    subst this
    rw [eq, ev gl hg, if_pos rfl]
    exact ⟨hg, by decide⟩
  · intro x hx hv
    rw [ev x hx] at hv ⊢
    by_cases e : x = gl
    · rw [if_pos e]
      exact ⟨⟨0, by omega, by omega, by rw [eq, e]⟩, by omega, by omega, hx, e⟩
    · rw [if_neg e] at hv
      exact absurd rfl hv
  · intro x hx e
    rw [ev x hx, if_pos e]
  · intro i j i0 i1 i2
    have e1 : i = 0 := by omega
    have e2 : j = 0 := by omega
    subst e1; subst e2
    exact Int.le_refl _
  · intro j j0 j1 _
    have e2 : j = 0 := by omega
    subst e2
    omega
  · intro i x i0 i1
    omega
theorem bI_run {adj : Int → Int → Prop} {S : Int → Prop} : ∀ (m : Nat) (d q : Int → Int) (h t : Int), bI adj S (-1) d q h t → (40 - h - t).toNat = m → ∃ d q t, bI adj S (-1) d q t t := by
  intro m
  induction m using Nat.strongRecOn with
  | _ m ih =>
    intro d q h t I hm
    have ht := bI_t I
    have h0 := I.1.1
    have h1 := I.1.2.1
    by_cases e : h = t
    · subst e
      exact ⟨d, q, h, I⟩
    · by_cases hx : ∃ b, inC b ∧ adj (q h) b ∧ d b = -1
      · obtain ⟨b, hb, ha, hn⟩ := hx
        obtain ⟨g1, g2⟩ := bI_visit (Or.inl (by omega)) I (by omega) hb ha hn
        exact ih _ (by omega) _ _ _ _ g2 rfl
      · exact ih _ (by omega) _ _ _ _ (bI_next I (by omega) (fun b hb ha hn => hx ⟨b, hb, ha, hn⟩)) rfl
theorem sD_lt {op : Int → Prop} {g c : Int} (hg : inC g) (hc : inC c) : sD op g c < 20 := by
  obtain ⟨d, q, t, I⟩ := bI_run (adj := adjO op) (S := fun x => x = g) _ (fun x => if x = g then 0 else -1) (fun _ => g) 0 1 (bI_one hg (fun _ _ => rfl) rfl) rfl
  have ht := bI_t I
  have e := bI_end (Or.inl (by omega)) I hc
  unfold sD
  rw [e]
  split
  · omega
  · rename_i hne
    have := (I.2.2.1 c hc hne).2.2.1
    omega
theorem c_spread {b : Nat} {gl : Int} {D : Mem} {P : Int → Mem → Prop} (hb : zBk b) (hW : WY D b) (hg : inC gl) (hP : ∀ D', Fr (b + 22) (b + 27) D D' → WY D' b → D' (b + 22) 3 = D (b + 22) 3 → zB (D' (b + 22) 2) gl → P 0 D') : zC miX4_spread [zr (b + 22), zi gl] D P := by
  obtain ⟨g0, g1⟩ := hg
  obtain ⟨⟨k0, k1⟩, hz, hc0⟩ := hW
  have hm0 := hz.1
  have hm1 := hz.2
  -- the part of the steps that belongs to others stays; what is in it is dS
  have fin : ∀ (i t : Int) (D1 : Mem), i = t → (∀ o, o ≠ b + 24 → o ≠ b + 26 → D1 o = D o) → (∀ j, (j < gl * 20 ∨ gl * 20 + 20 ≤ j) → D1 (b + 24) j = D (b + 24) j) → bI (adjO (zB (D (b + 22) 3))) (fun x => x = gl) (-1) (fun c => D1 (b + 24) (gl * 20 + c)) (D1 (b + 26)) i t → P 0 (zU D1 (b + 22) 2 (bO (D1 (b + 22) 2) (bL 1 gl))) := by
    intro i t D1 e h1 h2 I
    subst e
    have e1 : D1 (b + 22) = D (b + 22) := h1 _ (by omega) (by omega)
    have ho := fun j hj => zB_or (x := D (b + 22) 2) (k := gl) (j := j) k0 k1 g0 g1 hj
    rw [e1]
    have e3 : zU D1 (b + 22) 2 (bO (D (b + 22) 2) (bL 1 gl)) (b + 22) 3 = D (b + 22) 3 := by rw [zU_k (by decide), e1]
    refine hP _ ?_ ⟨?_, ?_, ?_⟩ e3 ?_
    · intro o ho'
      rw [zU_ne (by omega)]
      exact h1 o (by omega) (by omega)
    · rw [zU_s]
      exact (ho 0 (by omega)).2
    · rw [e3]; exact hz
    · intro g hg hz c hc
      rw [zU_s] at hz
      rw [e3, zU_ne (by omega)]
      rcases (ho g hg.1).1.mp hz with hz | hz
      · by_cases eg : g = gl
        · subst eg
          have := bI_end (u := -1) (Or.inl (by omega)) I hc
          unfold sD
          rw [this]
          split
          · assumption
          · rfl
        · rw [h2 _ (by have := hc.1; have := hc.2; omega)]
          exact hc0 g hg hz c hc
      · subst hz
        have := bI_end (u := -1) (Or.inl (by omega)) I hc
        unfold sD
        rw [this]
        split
        · assumption
        · rfl
    · rw [zU_s]
      exact (ho gl g0).1.mpr (Or.inr rfl)
  have rs0 : ((400 : Nat) : Int) = 400 := rfl
  have rq0 : ((20 : Nat) : Int) = 20 := rfl
  have outer : ∀ (m : Nat) (i t : Int) (v5 v6 v7 : AV) (D1 : Mem), (20 - i).toNat = m → (∀ o, o ≠ b + 24 → o ≠ b + 26 → D1 o = D o) → (∀ j, (j < gl * 20 ∨ gl * 20 + 20 ≤ j) → D1 (b + 24) j = D (b + 24) j) → bI (adjO (zB (D (b + 22) 3))) (fun x => x = gl) (-1) (fun c => D1 (b + 24) (gl * 20 + c)) (D1 (b + 26)) i t → zW miX4_spread P 55 [zr (b + 22), zi gl, zi (gl * 20), zi t, zi i, v5, v6, v7] D1 := by
    intro m
    induction m using Nat.strongRecOn with
    | _ m ih =>
    intro i t v5 v6 v7 D1 hm h1 h2 I
    have ht := bI_t I
    have hi0 := I.1.1
    have hi1 := I.1.2.1
    refine sX4_spread_55 _ _ _ _ _ ?_
    simp only [tX4_spread_55, w_ic, w_lc, w_lds, w_ild, w_lld, w_ald, w_ist, w_lst, w_ast, w_iinc, w_iadd, w_isub, w_imul, w_idiv, w_irem, w_iand, w_ior, w_ixor, w_ishl, w_ishr, w_iushr, w_ineg, w_ladd, w_lsub, w_lmul, w_ldiv, w_lrem, w_lcmp, w_i2l, w_l2i, w_dup, w_pop, w_dup2, w_ieq, w_zeq, w_ine, w_zne, w_ilt, w_zlt, w_ige, w_zge, w_igt, w_zgt, w_ile, w_zle, w_cut, w_tsw, zsw, w_iret, w_zret, w_lret, w_vret, w_nret, w_getI, w_getJ, w_getR, w_putI, w_putZ, w_putJ, w_iald, w_zald, w_iast, w_zast, w_alen, w_sI, w_sJ, w_sV, w_vI, w_vJ, w_vV, w_tI, w_mmax, w_mmin, w_mabs, w_lmax, w_acopy, gL, sL, kl_i, kl_l, kl_r, kl_s, kl_m, qI_i, qJ_l, qA_r, qA_s, pI_i, pJ_l, pA_r, pS_s, pM_m, pV_v, c1_i, c1_r, c1_s, c1_m, cS_0, cS_i, cS_l, cS_r, cS_s, cS_m, pN, z_rc_r, zE1, zE2, zE3, true_and, and_true, Nat.zero_add, Nat.reduceAdd, Nat.reduceLeDiff, true_or, or_true, hb.wo, hb.wk, hb.wq, hb.zq, hb.rq.o]
    refine ⟨fun q => fin i t D1 (by omega) h1 h2 I, fun q => ⟨fun q2 => fin i t D1 (by omega) h1 h2 I, fun q2 => ?_⟩⟩
    refine c_Row_get hb.rq hi0 (by omega) ?_
    have hfr := (I.2.1 i hi0 (by omega)).1
    have inner : ∀ (mm : Nat) (s t : Int) (v7 : AV) (D2 : Mem), (4 - s).toNat = mm → 0 ≤ s → s ≤ 4 → D2 (b + 26) i = D1 (b + 26) i → (∀ o, o ≠ b + 24 → o ≠ b + 26 → D2 o = D o) → (∀ j, (j < gl * 20 ∨ gl * 20 + 20 ≤ j) → D2 (b + 24) j = D (b + 24) j) → bI (adjO (zB (D (b + 22) 3))) (fun x => x = gl) (-1) (fun c => D2 (b + 24) (gl * 20 + c)) (D2 (b + 26)) i t → i < t → (∀ s', 0 ≤ s' → s' < s → sBs (D (b + 22) 3) (D1 (b + 26) i) s' ≠ -1 → D2 (b + 24) (gl * 20 + sBs (D (b + 22) 3) (D1 (b + 26) i) s') ≠ -1) → zW miX4_spread P 82 [zr (b + 22), zi gl, zi (gl * 20), zi t, zi i, zi (D1 (b + 26) i), zi s, v7] D2 := by
      intro mm
      induction mm with
      | zero =>
        intro s t v7 D2 hmm s0 s1 hq g1 g2 J hit dn
        refine sX4_spread_82 _ _ _ _ _ ?_
        simp only [tX4_spread_82, w_ic, w_lc, w_lds, w_ild, w_lld, w_ald, w_ist, w_lst, w_ast, w_iinc, w_iadd, w_isub, w_imul, w_idiv, w_irem, w_iand, w_ior, w_ixor, w_ishl, w_ishr, w_iushr, w_ineg, w_ladd, w_lsub, w_lmul, w_ldiv, w_lrem, w_lcmp, w_i2l, w_l2i, w_dup, w_pop, w_dup2, w_ieq, w_zeq, w_ine, w_zne, w_ilt, w_zlt, w_ige, w_zge, w_igt, w_zgt, w_ile, w_zle, w_cut, w_tsw, zsw, w_iret, w_zret, w_lret, w_vret, w_nret, w_getI, w_getJ, w_getR, w_putI, w_putZ, w_putJ, w_iald, w_zald, w_iast, w_zast, w_alen, w_sI, w_sJ, w_sV, w_vI, w_vJ, w_vV, w_tI, w_mmax, w_mmin, w_mabs, w_lmax, w_acopy, gL, sL, kl_i, kl_l, kl_r, kl_s, kl_m, qI_i, qJ_l, qA_r, qA_s, pI_i, pJ_l, pA_r, pS_s, pM_m, pV_v, c1_i, c1_r, c1_s, c1_m, cS_0, cS_i, cS_l, cS_r, cS_s, cS_m, pN, z_rc_r, zE1, zE2, zE3, true_and, and_true, Nat.zero_add, Nat.reduceAdd, Nat.reduceLeDiff, true_or, or_true, hb.wo, hb.wk, hb.wq, hb.zq, hb.rq.o]
        have ht' := bI_t J
        refine ⟨fun _ => ⟨⟨by omega, by omega⟩, ?_⟩, fun w => absurd (by omega) w⟩
        refine ih (20 - (i + 1)).toNat (by omega) (i + 1) t _ _ _ D2 rfl g1 g2 (bI_next J hit fun x hx hadj => ?_)
        rw [hq] at hadj
        obtain ⟨s', e0, e1, e2⟩ := sBs_all hz hfr hx hadj
        have hx0 := hx.1
        have := dn s' e0 (by omega) (by omega)
        rw [e2] at this
        exact this
      | succ mm ih2 =>
        intro s t v7 D2 hmm s0 s1 hq g1 g2 J hit dn
        have ht' := bI_t J
        have e22 : D2 (b + 22) = D (b + 22) := g1 _ (by omega) (by omega)
        refine sX4_spread_82 _ _ _ _ _ ?_
        simp only [tX4_spread_82, w_ic, w_lc, w_lds, w_ild, w_lld, w_ald, w_ist, w_lst, w_ast, w_iinc, w_iadd, w_isub, w_imul, w_idiv, w_irem, w_iand, w_ior, w_ixor, w_ishl, w_ishr, w_iushr, w_ineg, w_ladd, w_lsub, w_lmul, w_ldiv, w_lrem, w_lcmp, w_i2l, w_l2i, w_dup, w_pop, w_dup2, w_ieq, w_zeq, w_ine, w_zne, w_ilt, w_zlt, w_ige, w_zge, w_igt, w_zgt, w_ile, w_zle, w_cut, w_tsw, zsw, w_iret, w_zret, w_lret, w_vret, w_nret, w_getI, w_getJ, w_getR, w_putI, w_putZ, w_putJ, w_iald, w_zald, w_iast, w_zast, w_alen, w_sI, w_sJ, w_sV, w_vI, w_vJ, w_vV, w_tI, w_mmax, w_mmin, w_mabs, w_lmax, w_acopy, gL, sL, kl_i, kl_l, kl_r, kl_s, kl_m, qI_i, qJ_l, qA_r, qA_s, pI_i, pJ_l, pA_r, pS_s, pM_m, pV_v, c1_i, c1_r, c1_s, c1_m, cS_0, cS_i, cS_l, cS_r, cS_s, cS_m, pN, z_rc_r, zE1, zE2, zE3, true_and, and_true, Nat.zero_add, Nat.reduceAdd, Nat.reduceLeDiff, true_or, or_true, hb.wo, hb.ws, hb.zs, hb.rs.o, hb.wq, hb.zq, hb.rq.o]
        refine ⟨fun w => absurd w (by omega), fun _ => ?_⟩
        refine c_beside hb (by rw [e22]; exact hz) hfr s0 (by omega) ?_
        rw [e22]
        have skip : (sBs (D (b + 22) 3) (D1 (b + 26) i) s ≠ -1 → D2 (b + 24) (gl * 20 + sBs (D (b + 22) 3) (D1 (b + 26) i) s) ≠ -1) → ∀ v7 : AV, zR (s + 1) ∧ zW miX4_spread P 82 [zr (b + 22), zi gl, zi (gl * 20), zi t, zi i, zi (D1 (b + 26) i), zi (s + 1), v7] D2 := by
          intro hk v7
          refine ⟨⟨by omega, by omega⟩, ih2 (s + 1) t v7 D2 (by omega) (by omega) (by omega) hq g1 g2 J hit fun s' p0 p1 p2 => ?_⟩
          by_cases es : s' = s
          · rw [es] at p2 ⊢
            exact hk p2
          · exact dn s' p0 (by omega) p2
        refine ⟨fun w => skip (fun w2 => absurd w w2) _, fun w => ?_⟩
        obtain ⟨⟨r0, r1⟩, hadj⟩ := sBs_in hz hfr w
        have hf0 := hfr.1
        have hf1 := hfr.2
        refine ⟨⟨by omega, by omega⟩, ?_⟩
        refine c_Row_get hb.rs (by omega) (by omega) ?_
        refine ⟨fun w2 => ⟨⟨by omega, by omega⟩, ⟨by omega, by omega⟩, ?_⟩, fun w2 => skip (fun _ => w2) _⟩
        refine c_Row_get hb.rs (by omega) (by omega) ?_
        have J5 := (J.2.2.1 _ hfr (by rw [← hq]; exact (J.2.1 i hi0 hit).2)).2
        have hdx : 0 ≤ D2 (b + 24) (gl * 20 + D1 (b + 26) i) ∧ D2 (b + 24) (gl * 20 + D1 (b + 26) i) < t := ⟨J5.1, J5.2.1⟩
        obtain ⟨v1, v2⟩ := bI_visit (Or.inl (by omega)) J hit ⟨r0, r1⟩ (by rw [hq]; exact hadj) w2
        refine ⟨⟨by omega, by omega⟩, ?_⟩
        refine c_Row_set hb.rs (by omega) (by omega) ?_
        refine c_Row_set hb.rq (by omega) (by omega) ?_
        refine ⟨⟨by omega, by omega⟩, ⟨by omega, by omega⟩, ?_⟩
        have eD : (fun c => zU (zU D2 (b + 24) (gl * 20 + sBs (D (b + 22) 3) (D1 (b + 26) i) s) (D2 (b + 24) (gl * 20 + D1 (b + 26) i) + 1)) (b + 26) t (sBs (D (b + 22) 3) (D1 (b + 26) i) s) (b + 24) (gl * 20 + c)) = fU (fun c => D2 (b + 24) (gl * 20 + c)) (sBs (D (b + 22) 3) (D1 (b + 26) i) s) (D2 (b + 24) (gl * 20 + D1 (b + 26) i) + 1) := by
          rw [← zU_off]
          funext c
          rw [zU_o (by omega)]
        have eQ : zU (zU D2 (b + 24) (gl * 20 + sBs (D (b + 22) 3) (D1 (b + 26) i) s) (D2 (b + 24) (gl * 20 + D1 (b + 26) i) + 1)) (b + 26) t (sBs (D (b + 22) 3) (D1 (b + 26) i) s) (b + 26) = fU (D2 (b + 26)) t (sBs (D (b + 22) 3) (D1 (b + 26) i) s) := by
          rw [zU_fU, zU_ne (by omega)]
        refine ih2 (s + 1) (t + 1) _ _ (by omega) (by omega) (by omega) ?_ (fun o o1 o2 => ?_) (fun j hj => ?_) ?_ (by omega) (fun s' p0 p1 p2 => ?_)
        · rw [eQ, fU_n (by omega)]
          exact hq
        · rw [zU_ne o2, zU_ne o1]
          exact g1 o o1 o2
        · rw [zU_o (by omega), zU_k (by omega)]
          exact g2 j hj
        · rw [eD, eQ]
          rw [hq] at v2
          exact v2
        · have e9 := congrFun eD (sBs (D (b + 22) 3) (D1 (b + 26) i) s')
          rw [e9]
          by_cases es : sBs (D (b + 22) 3) (D1 (b + 26) i) s' = sBs (D (b + 22) 3) (D1 (b + 26) i) s
          · rw [es, fU_s]
            omega
          · rw [fU_n es]
            by_cases es2 : s' = s
            · rw [es2] at es
              exact absurd rfl es
            · exact dn s' p0 (by omega) p2
    exact inner 4 0 t _ D1 rfl (by omega) (by omega) rfl h1 h2 I (by omega) (fun s' p0 p1 => by omega)
  have init : ∀ (m : Nat) (c : Int) (v4 v5 v6 v7 : AV) (D1 : Mem), (20 - c).toNat = m → 0 ≤ c → c ≤ 20 → (∀ o, o ≠ b + 24 → o ≠ b + 26 → D1 o = D o) → (∀ j, (j < gl * 20 ∨ gl * 20 + 20 ≤ j) → D1 (b + 24) j = D (b + 24) j) → (∀ j, 0 ≤ j → j < c → D1 (b + 24) (gl * 20 + j) = -1) → zW miX4_spread P 7 [zr (b + 22), zi gl, zi (gl * 20), zi c, v4, v5, v6, v7] D1 := by
    intro m
    induction m with
    | zero =>
      intro c v4 v5 v6 v7 D1 hm0' c0 c1 h1 h2 h3
      refine sX4_spread_7 _ _ _ _ _ ?_
      simp only [tX4_spread_7, w_ic, w_lc, w_lds, w_ild, w_lld, w_ald, w_ist, w_lst, w_ast, w_iinc, w_iadd, w_isub, w_imul, w_idiv, w_irem, w_iand, w_ior, w_ixor, w_ishl, w_ishr, w_iushr, w_ineg, w_ladd, w_lsub, w_lmul, w_ldiv, w_lrem, w_lcmp, w_i2l, w_l2i, w_dup, w_pop, w_dup2, w_ieq, w_zeq, w_ine, w_zne, w_ilt, w_zlt, w_ige, w_zge, w_igt, w_zgt, w_ile, w_zle, w_cut, w_tsw, zsw, w_iret, w_zret, w_lret, w_vret, w_nret, w_getI, w_getJ, w_getR, w_putI, w_putZ, w_putJ, w_iald, w_zald, w_iast, w_zast, w_alen, w_sI, w_sJ, w_sV, w_vI, w_vJ, w_vV, w_tI, w_mmax, w_mmin, w_mabs, w_lmax, w_acopy, gL, sL, kl_i, kl_l, kl_r, kl_s, kl_m, qI_i, qJ_l, qA_r, qA_s, pI_i, pJ_l, pA_r, pS_s, pM_m, pV_v, c1_i, c1_r, c1_s, c1_m, cS_0, cS_i, cS_l, cS_r, cS_s, cS_m, pN, z_rc_r, zE1, zE2, zE3, true_and, and_true, Nat.zero_add, Nat.reduceAdd, Nat.reduceLeDiff, true_or, or_true, hb.wo, hb.ws, hb.zs, hb.rs.o, hb.wq, hb.zq, hb.rq.o]
      refine ⟨fun _ => ⟨⟨by omega, by omega⟩, ?_⟩, fun w => absurd (by omega) w⟩
      refine c_Row_set hb.rs (by omega) (by omega) ?_
      refine c_Row_set hb.rq (by omega) (by omega) ?_
      have ev : ∀ x, inC x → zU (zU D1 (b + 24) (gl * 20 + gl) 0) (b + 26) 0 gl (b + 24) (gl * 20 + x) = if x = gl then 0 else -1 := by
        intro x hx
        rw [zU_o (by omega)]
        by_cases e : x = gl
        · rw [e, zU_s, if_pos rfl]
        · rw [zU_k (by omega), if_neg e]
          exact h3 x hx.1 (by have := hx.2; omega)
      have eq : zU (zU D1 (b + 24) (gl * 20 + gl) 0) (b + 26) 0 gl (b + 26) 0 = gl := by rw [zU_s]
      refine outer _ 0 1 _ _ _ _ rfl (fun o o1 o2 => ?_) (fun j hj => ?_) (bI_one ⟨g0, g1⟩ ev eq)
      · rw [zU_ne o2, zU_ne o1]; exact h1 o o1 o2
      · rw [zU_o (by omega), zU_k (by omega)]; exact h2 j hj
    | succ m ih =>
      intro c v4 v5 v6 v7 D1 hm0' c0 c1 h1 h2 h3
      refine sX4_spread_7 _ _ _ _ _ ?_
      simp only [tX4_spread_7, w_ic, w_lc, w_lds, w_ild, w_lld, w_ald, w_ist, w_lst, w_ast, w_iinc, w_iadd, w_isub, w_imul, w_idiv, w_irem, w_iand, w_ior, w_ixor, w_ishl, w_ishr, w_iushr, w_ineg, w_ladd, w_lsub, w_lmul, w_ldiv, w_lrem, w_lcmp, w_i2l, w_l2i, w_dup, w_pop, w_dup2, w_ieq, w_zeq, w_ine, w_zne, w_ilt, w_zlt, w_ige, w_zge, w_igt, w_zgt, w_ile, w_zle, w_cut, w_tsw, zsw, w_iret, w_zret, w_lret, w_vret, w_nret, w_getI, w_getJ, w_getR, w_putI, w_putZ, w_putJ, w_iald, w_zald, w_iast, w_zast, w_alen, w_sI, w_sJ, w_sV, w_vI, w_vJ, w_vV, w_tI, w_mmax, w_mmin, w_mabs, w_lmax, w_acopy, gL, sL, kl_i, kl_l, kl_r, kl_s, kl_m, qI_i, qJ_l, qA_r, qA_s, pI_i, pJ_l, pA_r, pS_s, pM_m, pV_v, c1_i, c1_r, c1_s, c1_m, cS_0, cS_i, cS_l, cS_r, cS_s, cS_m, pN, z_rc_r, zE1, zE2, zE3, true_and, and_true, Nat.zero_add, Nat.reduceAdd, Nat.reduceLeDiff, true_or, or_true, hb.wo, hb.ws, hb.zs, hb.rs.o, hb.wq, hb.zq, hb.rq.o]
      refine ⟨fun w => absurd w (by omega), fun _ => ⟨⟨by omega, by omega⟩, ?_⟩⟩
      refine c_Row_set hb.rs (by omega) (by omega) ⟨⟨by omega, by omega⟩, ?_⟩
      refine ih (c + 1) _ _ _ _ _ (by omega) (by omega) (by omega) (fun o o1 o2 => ?_) (fun j hj => ?_) (fun j j0 j1 => ?_)
      · rw [zU_ne o1]; exact h1 o o1 o2
      · rw [zU_k (by omega)]; exact h2 j hj
      · by_cases e : j = c
        · rw [e, zU_s]
        · rw [zU_k (by omega)]; exact h3 j j0 (by omega)
  refine e_X4_spread ?_
  simp only [tX4_spread_0, w_ic, w_lc, w_lds, w_ild, w_lld, w_ald, w_ist, w_lst, w_ast, w_iinc, w_iadd, w_isub, w_imul, w_idiv, w_irem, w_iand, w_ior, w_ixor, w_ishl, w_ishr, w_iushr, w_ineg, w_ladd, w_lsub, w_lmul, w_ldiv, w_lrem, w_lcmp, w_i2l, w_l2i, w_dup, w_pop, w_dup2, w_ieq, w_zeq, w_ine, w_zne, w_ilt, w_zlt, w_ige, w_zge, w_igt, w_zgt, w_ile, w_zle, w_cut, w_tsw, zsw, w_iret, w_zret, w_lret, w_vret, w_nret, w_getI, w_getJ, w_getR, w_putI, w_putZ, w_putJ, w_iald, w_zald, w_iast, w_zast, w_alen, w_sI, w_sJ, w_sV, w_vI, w_vJ, w_vV, w_tI, w_mmax, w_mmin, w_mabs, w_lmax, w_acopy, gL, sL, kl_i, kl_l, kl_r, kl_s, kl_m, qI_i, qJ_l, qA_r, qA_s, pI_i, pJ_l, pA_r, pS_s, pM_m, pV_v, c1_i, c1_r, c1_s, c1_m, cS_0, cS_i, cS_l, cS_r, cS_s, cS_m, pN, z_rc_r, zE1, zE2, zE3, true_and, and_true, Nat.zero_add, Nat.reduceAdd, Nat.reduceLeDiff, true_or, or_true]
  exact ⟨⟨by omega, by omega⟩, init _ 0 _ _ _ _ D rfl (by omega) (by omega) (fun _ _ _ => rfl) (fun _ _ => rfl) (fun j j0 j1 => by omega)⟩
theorem WY.bit {D : Mem} {b : Nat} (h : WY D b) {g : Int} (hg : inC g) : bA (bR (D (b + 22) 2) g) 1 = 1 ↔ zB (D (b + 22) 2) g := zB_iff h.1.1 (by have := h.1.2; omega) hg.1 (by have := hg.2; omega)
theorem c_between {b : Nat} {c gl : Int} {D : Mem} {P : Int → Mem → Prop} (hb : zBk b) (hW : WY D b) (hc : inC c) (hg : inC gl) (hP : ∀ D', Fr (b + 22) (b + 27) D D' → WY D' b → D' (b + 22) 3 = D (b + 22) 3 → P (sD (zB (D (b + 22) 3)) gl c) D') : zC miX4_between [zr (b + 22), zi c, zi gl] D P := by
  have c0 := hc.1
  have c1 := hc.2
  have g0 := hg.1
  have g1 := hg.2
  have rs0 : ((400 : Nat) : Int) = 400 := rfl
  refine e_X4_between ?_
  simp only [tX4_between_0, w_ic, w_lc, w_lds, w_ild, w_lld, w_ald, w_ist, w_lst, w_ast, w_iinc, w_iadd, w_isub, w_imul, w_idiv, w_irem, w_iand, w_ior, w_ixor, w_ishl, w_ishr, w_iushr, w_ineg, w_ladd, w_lsub, w_lmul, w_ldiv, w_lrem, w_lcmp, w_i2l, w_l2i, w_dup, w_pop, w_dup2, w_ieq, w_zeq, w_ine, w_zne, w_ilt, w_zlt, w_ige, w_zge, w_igt, w_zgt, w_ile, w_zle, w_cut, w_tsw, zsw, w_iret, w_zret, w_lret, w_vret, w_nret, w_getI, w_getJ, w_getR, w_putI, w_putZ, w_putJ, w_iald, w_zald, w_iast, w_zast, w_alen, w_sI, w_sJ, w_sV, w_vI, w_vJ, w_vV, w_tI, w_mmax, w_mmin, w_mabs, w_lmax, w_acopy, gL, sL, kl_i, kl_l, kl_r, kl_s, kl_m, qI_i, qJ_l, qA_r, qA_s, pI_i, pJ_l, pA_r, pS_s, pM_m, pV_v, c1_i, c1_r, c1_s, c1_m, cS_0, cS_i, cS_l, cS_r, cS_s, cS_m, pN, z_rc_r, zE1, zE2, zE3, true_and, and_true, Nat.zero_add, Nat.reduceAdd, Nat.reduceLeDiff, true_or, or_true, hb.wo, hb.wk, hb.ws, hb.zs, hb.rs.o]
  have get : ∀ D', Fr (b + 22) (b + 27) D D' → WY D' b → D' (b + 22) 3 = D (b + 22) 3 → zB (D' (b + 22) 2) gl → zR (gl * 20) ∧ zR (gl * 20 + c) ∧ zC miX2_get [zr (b + 23), zi (gl * 20 + c)] D' P := by
    intro D' h1 h2 h3 h4
    refine ⟨⟨by omega, by omega⟩, ⟨by omega, by omega⟩, c_Row_get hb.rs (by omega) (by omega) ?_⟩
    have := h2.2.2 gl hg h4 c hc
    rw [h3] at this
    rw [this]
    exact hP D' h1 h2 h3
  refine ⟨fun h => ?_, fun h => ?_⟩
  · have hk : zB (D (b + 22) 2) gl := by
      rcases zB_bit hW.1.1 (by have := hW.1.2; omega) gl g0 (by omega) with q | q
      · exact absurd q h
      · exact (hW.bit hg).mp q
    exact get D Fr.rfl hW rfl hk
  · refine c_spread hb hW hg fun D' h1 h2 h3 h4 => ?_
    exact get D' h1 h2 h3 h4
theorem c_next {b : Nat} {c gl : Int} {D : Mem} {P : Int → Mem → Prop} (hb : zBk b) (hW : WY D b) (hc : inC c) (hg : inC gl) (hP : ∀ D', Fr (b + 22) (b + 27) D D' → WY D' b → D' (b + 22) 3 = D (b + 22) 3 → P (sNx (zB (D (b + 22) 3)) c gl) D') : zC miX4_next [zr (b + 22), zi c, zi gl] D P := by
  have c0 := hc.1
  have c1 := hc.2
  have g0 := hg.1
  have g1 := hg.2
  have rs0 : ((400 : Nat) : Int) = 400 := rfl
  have loop : ∀ D', Fr (b + 22) (b + 27) D D' → WY D' b → D' (b + 22) 3 = D (b + 22) 3 → zB (D' (b + 22) 2) gl → 0 < sD (zB (D (b + 22) 3)) gl c → ∀ (m : Nat) (s : Int) (v : AV), (4 - s).toNat = m → 0 ≤ s → (∀ s', 0 ≤ s' → s' < s → sBs (D (b + 22) 3) c s' ≠ -1 → sD (zB (D (b + 22) 3)) gl (sBs (D (b + 22) 3) c s') ≠ sD (zB (D (b + 22) 3)) gl c - 1) → s ≤ 4 → zW miX4_next P 39 [zr (b + 22), zi c, zi gl, zi (sD (zB (D (b + 22) 3)) gl c), zi s, v] D' := by
    intro D' h1 h2 h3 h4 hpos m
    have hz := h2.2.1
    rw [h3] at hz
    have hle : sD (zB (D (b + 22) 3)) gl c < 20 := sD_lt hg hc
    induction m with
    | zero =>
      intro s v hm s0 dn s4
      exfalso
      obtain ⟨x, x0, x1, x2⟩ := sD_pre hpos
      obtain ⟨s', e0, e1, e2⟩ := sBs_all hz hc x0 x1
      have hx0 := x0.1
      exact dn s' e0 (by omega) (by omega) (by rw [e2]; exact x2)
    | succ m ih =>
      intro s v hm s0 dn s4
      refine sX4_next_39 _ _ _ _ _ ?_
      simp only [tX4_next_39, w_ic, w_lc, w_lds, w_ild, w_lld, w_ald, w_ist, w_lst, w_ast, w_iinc, w_iadd, w_isub, w_imul, w_idiv, w_irem, w_iand, w_ior, w_ixor, w_ishl, w_ishr, w_iushr, w_ineg, w_ladd, w_lsub, w_lmul, w_ldiv, w_lrem, w_lcmp, w_i2l, w_l2i, w_dup, w_pop, w_dup2, w_ieq, w_zeq, w_ine, w_zne, w_ilt, w_zlt, w_ige, w_zge, w_igt, w_zgt, w_ile, w_zle, w_cut, w_tsw, zsw, w_iret, w_zret, w_lret, w_vret, w_nret, w_getI, w_getJ, w_getR, w_putI, w_putZ, w_putJ, w_iald, w_zald, w_iast, w_zast, w_alen, w_sI, w_sJ, w_sV, w_vI, w_vJ, w_vV, w_tI, w_mmax, w_mmin, w_mabs, w_lmax, w_acopy, gL, sL, kl_i, kl_l, kl_r, kl_s, kl_m, qI_i, qJ_l, qA_r, qA_s, pI_i, pJ_l, pA_r, pS_s, pM_m, pV_v, c1_i, c1_r, c1_s, c1_m, cS_0, cS_i, cS_l, cS_r, cS_s, cS_m, pN, z_rc_r, zE1, zE2, zE3, true_and, and_true, Nat.zero_add, Nat.reduceAdd, Nat.reduceLeDiff, true_or, or_true, hb.wo, hb.wk, hb.ws, hb.zs, hb.rs.o]
      refine ⟨fun w => absurd w (by omega), fun _ => ?_⟩
      refine c_beside hb (by rw [h3]; exact hz) hc s0 (by omega) ?_
      rw [h3]
      have skip : (sBs (D (b + 22) 3) c s ≠ -1 → sD (zB (D (b + 22) 3)) gl (sBs (D (b + 22) 3) c s) ≠ sD (zB (D (b + 22) 3)) gl c - 1) → ∀ v : AV, zR (s + 1) ∧ zW miX4_next P 39 [zr (b + 22), zi c, zi gl, zi (sD (zB (D (b + 22) 3)) gl c), zi (s + 1), v] D' := by
        intro hk v
        refine ⟨⟨by omega, by omega⟩, ih (s + 1) v (by omega) (by omega) (fun s' p0 p1 p2 => ?_) (by omega)⟩
        by_cases es : s' = s
        · rw [es] at p2 ⊢
          exact hk p2
        · exact dn s' p0 (by omega) p2
      refine ⟨fun w => skip (fun w2 => absurd w w2) _, fun w => ?_⟩
      obtain ⟨⟨r0, r1⟩, hadj⟩ := sBs_in hz hc w
      refine ⟨⟨by omega, by omega⟩, ⟨by omega, by omega⟩, ?_⟩
      refine c_Row_get hb.rs (by omega) (by omega) ?_
      have ev := h2.2.2 gl hg h4 _ ⟨r0, r1⟩
      rw [h3] at ev
      rw [ev]
      refine ⟨⟨by omega, by omega⟩, fun w2 => skip (fun _ => w2) _, fun w2 => ?_⟩
      have : sNx (zB (D (b + 22) 3)) c gl = sBs (D (b + 22) 3) c s := by
        refine sNx_of (Or.inr ⟨hpos, ⟨r0, r1⟩, hadj, by omega, fun x hx hlt hxa hxe => ?_⟩)
        obtain ⟨s', e0, e1, e2⟩ := sBs_all hz hc hx hxa
        have hx0 := hx.1
        by_cases q : s' < s
        · exact dn s' e0 q (by omega) (by rw [e2]; exact hxe)
        · by_cases q2 : s' = s
          · rw [q2] at e2; omega
          · have := sBs_lt (m := D (b + 22) 3) (c := c) s0 (show s < s' by omega) e1 w (by omega)
            omega
      rw [← this]
      exact hP D' h1 h2 h3
  refine e_X4_next ?_
  simp only [tX4_next_0, w_ic, w_lc, w_lds, w_ild, w_lld, w_ald, w_ist, w_lst, w_ast, w_iinc, w_iadd, w_isub, w_imul, w_idiv, w_irem, w_iand, w_ior, w_ixor, w_ishl, w_ishr, w_iushr, w_ineg, w_ladd, w_lsub, w_lmul, w_ldiv, w_lrem, w_lcmp, w_i2l, w_l2i, w_dup, w_pop, w_dup2, w_ieq, w_zeq, w_ine, w_zne, w_ilt, w_zlt, w_ige, w_zge, w_igt, w_zgt, w_ile, w_zle, w_cut, w_tsw, zsw, w_iret, w_zret, w_lret, w_vret, w_nret, w_getI, w_getJ, w_getR, w_putI, w_putZ, w_putJ, w_iald, w_zald, w_iast, w_zast, w_alen, w_sI, w_sJ, w_sV, w_vI, w_vJ, w_vV, w_tI, w_mmax, w_mmin, w_mabs, w_lmax, w_acopy, gL, sL, kl_i, kl_l, kl_r, kl_s, kl_m, qI_i, qJ_l, qA_r, qA_s, pI_i, pJ_l, pA_r, pS_s, pM_m, pV_v, c1_i, c1_r, c1_s, c1_m, cS_0, cS_i, cS_l, cS_r, cS_s, cS_m, pN, z_rc_r, zE1, zE2, zE3, true_and, and_true, Nat.zero_add, Nat.reduceAdd, Nat.reduceLeDiff, true_or, or_true, hb.wo, hb.wk, hb.ws, hb.zs, hb.rs.o]
  have get : ∀ D', Fr (b + 22) (b + 27) D D' → WY D' b → D' (b + 22) 3 = D (b + 22) 3 → zB (D' (b + 22) 2) gl → zR (gl * 20) ∧ zR (gl * 20 + c) ∧ zC miX2_get [zr (b + 23), zi (gl * 20 + c)] D' (fun x D'' => (0 < x → zW miX4_next P 39 [zr (b + 22), zi c, zi gl, zi x, zi 0, zm 0] D'') ∧ (¬ 0 < x → P c D'')) := by
    intro D' h1 h2 h3 h4
    refine ⟨⟨by omega, by omega⟩, ⟨by omega, by omega⟩, c_Row_get hb.rs (by omega) (by omega) ?_⟩
    have := h2.2.2 gl hg h4 c hc
    rw [h3] at this
    rw [this]
    refine ⟨fun q => loop D' h1 h2 h3 h4 q 4 0 _ rfl (by omega) (fun s' p0 p1 => by omega) (by omega), fun q => ?_⟩
    have e : sNx (zB (D (b + 22) 3)) c gl = c := sNx_of (Or.inl ⟨by omega, rfl⟩)
    have := hP D' h1 h2 h3
    rw [e] at this
    exact this
  refine ⟨fun h => ?_, fun h => ?_⟩
  · have hk : zB (D (b + 22) 2) gl := by
      rcases zB_bit hW.1.1 (by have := hW.1.2; omega) gl g0 (by omega) with q | q
      · exact absurd q h
      · exact (hW.bit hg).mp q
    exact get D Fr.rfl hW rfl hk
  · refine c_spread hb hW hg fun D' h1 h2 h3 h4 => ?_
    exact get D' h1 h2 h3 h4
