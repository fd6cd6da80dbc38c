/-! ===== 30: what can be reached; notes, marks, sounds; down, cut, who, is, kinds ===== -/
def zRch (op : Int → Prop) (S : Int → Prop) (c : Int) : Prop := ∃ n, sP (adjO op) S n c
theorem zRch_sd {op : Int → Prop} {S : Int → Prop} {c : Int} : sd (adjO op) S c = -1 ↔ ¬ zRch op S c := by
  rcases sd_is (adjO op) S c with ⟨h1, h2⟩ | ⟨h1, h2, h3⟩
  · exact ⟨fun _ ⟨n, hn⟩ => h2 n hn, fun _ => h1⟩
  · exact ⟨fun h => by omega, fun h => absurd ⟨_, h2⟩ h⟩
theorem zRch_to {op : Int → Prop} {S : Int → Prop} {F : Int} (hF : ∀ x, S x → x / 4 = F) : ∀ {n : Nat} {c : Int}, sP (adjO op) S n c → ∀ f, min F (c / 4) ≤ f → f < max F (c / 4) → ∃ x, inC x ∧ op x ∧ x / 4 = f
  | 0, c, h => by
    intro f f0 f1
    have := hF c h.2
    omega
  | n + 1, c, h => by
    obtain ⟨hc, b, hb, ha⟩ := h
    have ih := zRch_to hF hb
    intro f f0 f1
    by_cases q : min F (b / 4) ≤ f ∧ f < max F (b / 4)
    · exact ih f q.1 q.2
    · rcases ha with ⟨h1, h2⟩ | ⟨h1, h2⟩ | ⟨h1, h2⟩ | ⟨h1, h2⟩
      · omega
      · omega
      · exact ⟨b, sP_in hb, h2, by omega⟩
      · exact ⟨c, hc, h2, by omega⟩
theorem zRch_st {op : Int → Prop} {S : Int → Prop} {b c : Int} (h : zRch op S b) (hc : inC c) (ha : adjO op b c) : zRch op S c := by
  obtain ⟨n, hn⟩ := h
  exact ⟨n + 1, hc, b, hn, ha⟩
theorem zRch_in {op : Int → Prop} {S : Int → Prop} {b : Int} (h : zRch op S b) : inC b := sP_in h.choose_spec
theorem zRch_row {op : Int → Prop} {S : Int → Prop} : ∀ (d : Nat) {x y : Int}, (y - x).toNat + (x - y).toNat = d → zRch op S x → inC y → x / 4 = y / 4 → zRch op S y
  | 0, x, y, hd, h, _, _ => by
    rw [show y = x by omega]
    exact h
  | d + 1, x, y, hd, h, hy, hf => by
    have hx := zRch_in h
    have x0 := hx.1
    have x1 := hx.2
    have y0 := hy.1
    have y1 := hy.2
    by_cases q : x < y
    · exact zRch_row d (x := x + 1) (by omega) (zRch_st h ⟨by omega, by omega⟩ (Or.inl ⟨rfl, by omega⟩)) hy (by omega)
    · exact zRch_row d (x := x - 1) (by omega) (zRch_st h ⟨by omega, by omega⟩ (Or.inr (Or.inl ⟨by omega, by omega⟩))) hy (by omega)
theorem zRch_up {op : Int → Prop} {S : Int → Prop} {s0 : Int} (h0 : zRch op S s0) : ∀ (t : Nat), (∀ f, s0 / 4 ≤ f → f < s0 / 4 + t → ∃ x, inC x ∧ op x ∧ x / 4 = f) → ∀ c, inC c → c / 4 = s0 / 4 + t → zRch op S c
  | 0, _, c, hc, he => zRch_row _ rfl h0 hc (by omega)
  | t + 1, h, c, hc, he => by
    obtain ⟨x, hx, ho, hf⟩ := h (s0 / 4 + t) (by omega) (by omega)
    have c0 := hc.1
    have c1 := hc.2
    have x0 := hx.1
    have ih := zRch_up h0 t (fun f f0 f1 => h f f0 (by omega)) x hx hf
    exact zRch_row _ rfl (zRch_st ih (c := x + 4) ⟨by omega, by omega⟩ (Or.inr (Or.inr (Or.inl ⟨rfl, ho⟩)))) hc (by omega)
theorem zRch_dn {op : Int → Prop} {S : Int → Prop} {s0 : Int} (h0 : zRch op S s0) : ∀ (t : Nat), (∀ f, s0 / 4 - t ≤ f → f < s0 / 4 → ∃ x, inC x ∧ op x ∧ x / 4 = f) → ∀ c, inC c → c / 4 = s0 / 4 - t → zRch op S c
  | 0, _, c, hc, he => zRch_row _ rfl h0 hc (by omega)
  | t + 1, h, c, hc, he => by
    have c0 := hc.1
    have hs := zRch_in h0
    have s1 := hs.2
    obtain ⟨x, hx, ho, hf⟩ := h (s0 / 4 - t - 1) (by omega) (by omega)
    have x0 := hx.1
    have ih := zRch_dn h0 t (fun f f0 f1 => h f (by omega) f1) (x + 4) ⟨by omega, by omega⟩ (by omega)
    exact zRch_row _ rfl (zRch_st ih (c := x) hx (Or.inr (Or.inr (Or.inr ⟨rfl, ho⟩)))) hc (by omega)
theorem zRch_iff {op : Int → Prop} {S : Int → Prop} {F s0 c : Int} (hs : S s0) (hi : inC s0) (hF : ∀ x, S x → x / 4 = F) (hc : inC c) : zRch op S c ↔ ∀ f, min F (c / 4) ≤ f → f < max F (c / 4) → ∃ x, inC x ∧ op x ∧ x / 4 = f := by
  constructor
  · rintro ⟨n, hn⟩
    exact zRch_to hF hn
  · intro h
    have hs4 := hF s0 hs
    have h0 : zRch op S s0 := ⟨0, hi, hs⟩
    by_cases q : F ≤ c / 4
    · exact zRch_up h0 (c / 4 - F).toNat (fun f f0 f1 => h f (by omega) (by omega)) c hc (by omega)
    · exact zRch_dn h0 (F - c / 4).toNat (fun f f0 f1 => h f (by omega) (by omega)) c hc (by omega)
theorem zsum_0 {f : Int → Int} (hf : ∀ k, 0 ≤ f k) : ∀ n : Nat, zsum n f = 0 ↔ ∀ k : Int, 0 ≤ k → k < n → f k = 0
  | 0 => ⟨fun _ k k0 k1 => by omega, fun _ => rfl⟩
  | n + 1 => by
    have ih := zsum_0 hf n
    have hn : 0 ≤ zsum n f := by
      clear ih
      induction n with
      | zero => exact Int.le_refl _
      | succ n ihn => exact Int.add_nonneg ihn (hf _)
    have h1 := hf n
    show zsum n f + f n = 0 ↔ _
    constructor
    · intro h k k0 k1
      by_cases e : k = n
      · rw [e]; omega
      · exact ih.mp (by omega) k k0 (by omega)
    · intro h
      rw [ih.mpr (fun k k0 k1 => h k k0 (by omega)), h n (by omega) (by omega)]
      rfl
theorem sDn_0 {a : Int → Int} {f z : Int} (hw : W0 a) (z0 : 0 ≤ z) (z1 : z < a 0) : sDn a f z = 0 ↔ ¬ ∃ x, inC x ∧ sOp (zA a (10 + z) 0) x ∧ x / 4 = f := by
  have n0 := hw.1
  have e0 : zA a (10 + z) 0 0 = a 0 := zA_n (by omega)
  unfold sDn
  rw [zsum_0 (fun k => by split <;> omega)]
  constructor
  · rintro h ⟨x, hx, ⟨k, k0, k1, k2, k3⟩, hf⟩
    rw [e0] at k1
    rw [zA_n (by omega)] at k2
    have kz : k ≠ z := fun e => by rw [e, zA_s] at k3; omega
    rw [zA_n (by omega)] at k3
    have := h k k0 (by omega)
    rw [if_pos ⟨kz, k3, by rw [k2]; exact hf⟩] at this
    omega
  · intro h k k0 k1
    split
    · rename_i q
      exfalso
      refine h ⟨a (4 + k), ?_, ⟨k, k0, by omega, zA_n (by omega), ?_⟩, q.2.2⟩
      · have := (hw.2 k k0 (by omega)).1
        exact ⟨this.1, by omega⟩
      · rw [zA_n (by omega)]; exact q.2.1
    · rfl
noncomputable def sLost (a : Int → Int) : Int := zsum (a 1).toNat (fun i => if sGd (sOp a) (a (34 + i)) = -1 then 1 else 0)
theorem sGd_dn {a : Int → Int} {c z : Int} (hw : W0 a) (z0 : 0 ≤ z) (z1 : z < a 0) (hc : inC c) : sGd (sOp (zA a (10 + z) 0)) c = -1 ↔ ¬ ∀ f, 0 ≤ f → f < c / 4 → sDn a f z ≠ 0 := by
  unfold sGd
  have c0 := hc.1
  rw [zRch_sd, zRch_iff (F := 0) (s0 := 0) ⟨by decide, by decide⟩ ⟨by decide, by decide⟩ (fun x hx => by omega) hc]
  constructor
  · intro h h2
    refine h fun f f0 f1 => ?_
    have := h2 f (by omega) (by omega)
    rw [Ne, sDn_0 hw z0 z1] at this
    exact Classical.not_not.mp this
  · intro h h2
    refine h fun f f0 f1 => ?_
    rw [Ne, sDn_0 hw z0 z1]
    exact fun w => w (h2 f (by omega) (by omega))
theorem c_climbsDown {D s : Mem} {f z : Int} {P : Int → Mem → Prop} (hC : CS D s) (f1 : f ≤ 100) (h1 : (∀ g, 0 ≤ g → g < f → sDn (s 0) g z ≠ 0) → P 1 D) (h0 : (¬ ∀ g, 0 ≤ g → g < f → sDn (s 0) g z ≠ 0) → P 0 D) : zC miX5_climbsDown [zr 0, zi f, zi z] D P := by
  have loop : ∀ (r : Nat) (g : Int), (f - g).toNat = r → 0 ≤ g → (∀ j, 0 ≤ j → j < g → sDn (s 0) j z ≠ 0) → zW miX5_climbsDown P 2 [zr 0, zi f, zi z, zi g] D := by
    intro r
    induction r with
    | zero =>
      intro g hr g0 hg
      refine sX5_climbsDown_2 _ _ _ _ _ ?_
      simp only [tX5_climbsDown_2, w_ic, w_lc, w_lds, w_ild, w_lld, w_ald, w_ist, w_lst, w_ast, w_iinc, w_iadd, w_isub, w_imul, w_idiv, w_irem, w_iand, w_ior, w_ixor, w_ishl, w_ishr, w_iushr, w_ineg, w_ladd, w_lsub, w_lmul, w_ldiv, w_lrem, w_lcmp, w_i2l, w_l2i, w_dup, w_pop, w_dup2, w_ieq, w_zeq, w_ine, w_zne, w_ilt, w_zlt, w_ige, w_zge, w_igt, w_zgt, w_ile, w_zle, w_cut, w_tsw, zsw, w_iret, w_zret, w_lret, w_vret, w_nret, w_getI, w_getJ, w_getR, w_putI, w_putZ, w_putJ, w_iald, w_zald, w_iast, w_zast, w_alen, w_sI, w_sJ, w_sV, w_vI, w_vJ, w_vV, w_tI, w_mmax, w_mmin, w_mabs, w_lmax, w_acopy, gL, sL, kl_i, kl_l, kl_r, kl_s, kl_m, qI_i, qJ_l, qA_r, qA_s, pI_i, pJ_l, pA_r, pS_s, pM_m, pV_v, c1_i, c1_r, c1_s, c1_m, cS_0, cS_i, cS_l, cS_r, cS_s, cS_m, pN, z_rc_r, zE1, zE2, zE3, true_and, and_true, Nat.zero_add, Nat.reduceAdd, Nat.reduceLeDiff, true_or, or_true, q0, qp4, qp5, qp8, qp9, qf0, qz0, qf1, qz1, qf2, qz2, qf3, qz3, qf6, qz6, qf7, qz7, qf10, qz10, qf11, qz11, qf12, qz12, qf13, qz13, qf14, qz14, k1o, k1m, k1f0, k1z0, k1f1, k1z1, k1f2, k1z2, k1f3, k1z3, k1f4, k1z4, k1f5, k1z5, k1f6, k1z6, k1f7, k1z7, k1r0, k1r1, k1r2, k1r3, k1r4, k1r5, k1r6, k1w, k109, k109a, k109b, k109c, k109d, k109e, k109f, k109g, kr110, kr112, kr114, kr116, kr118, kr120, kr122]
      exact ⟨fun _ => h1 fun j j0 j1 => hg j j0 (by omega), fun q => absurd (by omega) q⟩
    | succ r ih =>
      intro g hr g0 hg
      refine sX5_climbsDown_2 _ _ _ _ _ ?_
      simp only [tX5_climbsDown_2, w_ic, w_lc, w_lds, w_ild, w_lld, w_ald, w_ist, w_lst, w_ast, w_iinc, w_iadd, w_isub, w_imul, w_idiv, w_irem, w_iand, w_ior, w_ixor, w_ishl, w_ishr, w_iushr, w_ineg, w_ladd, w_lsub, w_lmul, w_ldiv, w_lrem, w_lcmp, w_i2l, w_l2i, w_dup, w_pop, w_dup2, w_ieq, w_zeq, w_ine, w_zne, w_ilt, w_zlt, w_ige, w_zge, w_igt, w_zgt, w_ile, w_zle, w_cut, w_tsw, zsw, w_iret, w_zret, w_lret, w_vret, w_nret, w_getI, w_getJ, w_getR, w_putI, w_putZ, w_putJ, w_iald, w_zald, w_iast, w_zast, w_alen, w_sI, w_sJ, w_sV, w_vI, w_vJ, w_vV, w_tI, w_mmax, w_mmin, w_mabs, w_lmax, w_acopy, gL, sL, kl_i, kl_l, kl_r, kl_s, kl_m, qI_i, qJ_l, qA_r, qA_s, pI_i, pJ_l, pA_r, pS_s, pM_m, pV_v, c1_i, c1_r, c1_s, c1_m, cS_0, cS_i, cS_l, cS_r, cS_s, cS_m, pN, z_rc_r, zE1, zE2, zE3, true_and, and_true, Nat.zero_add, Nat.reduceAdd, Nat.reduceLeDiff, true_or, or_true, q0, qp4, qp5, qp8, qp9, qf0, qz0, qf1, qz1, qf2, qz2, qf3, qz3, qf6, qz6, qf7, qz7, qf10, qz10, qf11, qz11, qf12, qz12, qf13, qz13, qf14, qz14, k1o, k1m, k1f0, k1z0, k1f1, k1z1, k1f2, k1z2, k1f3, k1z3, k1f4, k1z4, k1f5, k1z5, k1f6, k1z6, k1f7, k1z7, k1r0, k1r1, k1r2, k1r3, k1r4, k1r5, k1r6, k1w, k109, k109a, k109b, k109c, k109d, k109e, k109f, k109g, kr110, kr112, kr114, kr116, kr118, kr120, kr122]
      refine ⟨fun q => absurd q (by omega), fun _ => ?_⟩
      refine c_downOn bk1 hC.1.1 ⟨fun q => ⟨⟨by omega, by omega⟩, ih (g + 1) (by omega) (by omega) fun j j0 j1 => ?_⟩, fun q => h0 fun w => w g g0 (by omega) (Decidable.not_not.mp q)⟩
      by_cases e : j = g
      · rw [e]; exact q
      · exact hg j j0 (by omega)
  refine e_X5_climbsDown ?_
  simp only [tX5_climbsDown_0, w_ic, w_lc, w_lds, w_ild, w_lld, w_ald, w_ist, w_lst, w_ast, w_iinc, w_iadd, w_isub, w_imul, w_idiv, w_irem, w_iand, w_ior, w_ixor, w_ishl, w_ishr, w_iushr, w_ineg, w_ladd, w_lsub, w_lmul, w_ldiv, w_lrem, w_lcmp, w_i2l, w_l2i, w_dup, w_pop, w_dup2, w_ieq, w_zeq, w_ine, w_zne, w_ilt, w_zlt, w_ige, w_zge, w_igt, w_zgt, w_ile, w_zle, w_cut, w_tsw, zsw, w_iret, w_zret, w_lret, w_vret, w_nret, w_getI, w_getJ, w_getR, w_putI, w_putZ, w_putJ, w_iald, w_zald, w_iast, w_zast, w_alen, w_sI, w_sJ, w_sV, w_vI, w_vJ, w_vV, w_tI, w_mmax, w_mmin, w_mabs, w_lmax, w_acopy, gL, sL, kl_i, kl_l, kl_r, kl_s, kl_m, qI_i, qJ_l, qA_r, qA_s, pI_i, pJ_l, pA_r, pS_s, pM_m, pV_v, c1_i, c1_r, c1_s, c1_m, cS_0, cS_i, cS_l, cS_r, cS_s, cS_m, pN, z_rc_r, zE1, zE2, zE3, true_and, and_true, Nat.zero_add, Nat.reduceAdd, Nat.reduceLeDiff, true_or, or_true, q0, qp4, qp5, qp8, qp9, qf0, qz0, qf1, qz1, qf2, qz2, qf3, qz3, qf6, qz6, qf7, qz7, qf10, qz10, qf11, qz11, qf12, qz12, qf13, qz13, qf14, qz14, k1o, k1m, k1f0, k1z0, k1f1, k1z1, k1f2, k1z2, k1f3, k1z3, k1f4, k1z4, k1f5, k1z5, k1f6, k1z6, k1f7, k1z7, k1r0, k1r1, k1r2, k1r3, k1r4, k1r5, k1r6, k1w, k109, k109a, k109b, k109c, k109d, k109e, k109f, k109g, kr110, kr112, kr114, kr116, kr118, kr120, kr122]
  exact loop _ 0 rfl (by omega) (fun j j0 j1 => by omega)
theorem c_goersCutOff {D s : Mem} {z : Int} {P : Int → Mem → Prop} (hC : CS D s) (z0 : 0 ≤ z) (z1 : z < s 0 0) (hP : P (sLost (zA (s 0) (10 + z) 0)) D) : zC miX5_goersCutOff [zr 0, zi z] D P := by
  have w := hC.1.1.2.2.1
  have n0 := w.n0
  have c1 := w.n1
  unfold sLost at hP
  rw [zA_n (show (1 : Int) ≠ 10 + z by omega)] at hP
  have loop : ∀ (r : Nat) (i : Int), (s 0 1 - i).toNat = r → 0 ≤ i → i ≤ s 0 1 → zW miX5_goersCutOff P 4 [zr 0, zi z, zi (zsum i.toNat (fun i => if sGd (sOp (zA (s 0) (10 + z) 0)) (zA (s 0) (10 + z) 0 (34 + i)) = -1 then 1 else 0)), zi i] D := by
    intro r
    induction r with
    | zero =>
      intro i hr i0 i1
      refine sX5_goersCutOff_4 _ _ _ _ _ ?_
      simp only [tX5_goersCutOff_4, w_ic, w_lc, w_lds, w_ild, w_lld, w_ald, w_ist, w_lst, w_ast, w_iinc, w_iadd, w_isub, w_imul, w_idiv, w_irem, w_iand, w_ior, w_ixor, w_ishl, w_ishr, w_iushr, w_ineg, w_ladd, w_lsub, w_lmul, w_ldiv, w_lrem, w_lcmp, w_i2l, w_l2i, w_dup, w_pop, w_dup2, w_ieq, w_zeq, w_ine, w_zne, w_ilt, w_zlt, w_ige, w_zge, w_igt, w_zgt, w_ile, w_zle, w_cut, w_tsw, zsw, w_iret, w_zret, w_lret, w_vret, w_nret, w_getI, w_getJ, w_getR, w_putI, w_putZ, w_putJ, w_iald, w_zald, w_iast, w_zast, w_alen, w_sI, w_sJ, w_sV, w_vI, w_vJ, w_vV, w_tI, w_mmax, w_mmin, w_mabs, w_lmax, w_acopy, gL, sL, kl_i, kl_l, kl_r, kl_s, kl_m, qI_i, qJ_l, qA_r, qA_s, pI_i, pJ_l, pA_r, pS_s, pM_m, pV_v, c1_i, c1_r, c1_s, c1_m, cS_0, cS_i, cS_l, cS_r, cS_s, cS_m, pN, z_rc_r, zE1, zE2, zE3, true_and, and_true, Nat.zero_add, Nat.reduceAdd, Nat.reduceLeDiff, true_or, or_true, q0, qp4, qp5, qp8, qp9, qf0, qz0, qf1, qz1, qf2, qz2, qf3, qz3, qf6, qz6, qf7, qz7, qf10, qz10, qf11, qz11, qf12, qz12, qf13, qz13, qf14, qz14, k1o, k1m, k1f0, k1z0, k1f1, k1z1, k1f2, k1z2, k1f3, k1z3, k1f4, k1z4, k1f5, k1z5, k1f6, k1z6, k1f7, k1z7, k1r0, k1r1, k1r2, k1r3, k1r4, k1r5, k1r6, k1w, k109, k109a, k109b, k109c, k109d, k109e, k109f, k109g, kr110, kr112, kr114, kr116, kr118, kr120, kr122]
      refine c_gsize bk1 hC.1.1 ⟨fun _ => ?_, fun q => absurd (by omega) q⟩
      rw [show i = s 0 1 by omega]
      exact hP
    | succ r ih =>
      intro i hr i0 i1
      have hat : inC (s 0 (34 + i)) := (w.w1.2 i i0 (by omega)).2.2.2.1
      have ha0 := hat.1
      have ha1 := hat.2
      have zb := zsum_b (f := fun i => if sGd (sOp (zA (s 0) (10 + z) 0)) (zA (s 0) (10 + z) 0 (34 + i)) = -1 then (1 : Int) else 0) (m := 1) i.toNat (fun k _ _ => by split <;> omega)
      have nx := ih (i + 1) (by omega) (by omega) (by omega)
      rw [zsum_s i0, zA_n (show 34 + i ≠ 10 + z by omega)] at nx
      refine sX5_goersCutOff_4 _ _ _ _ _ ?_
      simp only [tX5_goersCutOff_4, w_ic, w_lc, w_lds, w_ild, w_lld, w_ald, w_ist, w_lst, w_ast, w_iinc, w_iadd, w_isub, w_imul, w_idiv, w_irem, w_iand, w_ior, w_ixor, w_ishl, w_ishr, w_iushr, w_ineg, w_ladd, w_lsub, w_lmul, w_ldiv, w_lrem, w_lcmp, w_i2l, w_l2i, w_dup, w_pop, w_dup2, w_ieq, w_zeq, w_ine, w_zne, w_ilt, w_zlt, w_ige, w_zge, w_igt, w_zgt, w_ile, w_zle, w_cut, w_tsw, zsw, w_iret, w_zret, w_lret, w_vret, w_nret, w_getI, w_getJ, w_getR, w_putI, w_putZ, w_putJ, w_iald, w_zald, w_iast, w_zast, w_alen, w_sI, w_sJ, w_sV, w_vI, w_vJ, w_vV, w_tI, w_mmax, w_mmin, w_mabs, w_lmax, w_acopy, gL, sL, kl_i, kl_l, kl_r, kl_s, kl_m, qI_i, qJ_l, qA_r, qA_s, pI_i, pJ_l, pA_r, pS_s, pM_m, pV_v, c1_i, c1_r, c1_s, c1_m, cS_0, cS_i, cS_l, cS_r, cS_s, cS_m, pN, z_rc_r, zE1, zE2, zE3, true_and, and_true, Nat.zero_add, Nat.reduceAdd, Nat.reduceLeDiff, true_or, or_true, q0, qp4, qp5, qp8, qp9, qf0, qz0, qf1, qz1, qf2, qz2, qf3, qz3, qf6, qz6, qf7, qz7, qf10, qz10, qf11, qz11, qf12, qz12, qf13, qz13, qf14, qz14, k1o, k1m, k1f0, k1z0, k1f1, k1z1, k1f2, k1z2, k1f3, k1z3, k1f4, k1z4, k1f5, k1z5, k1f6, k1z6, k1f7, k1z7, k1r0, k1r1, k1r2, k1r3, k1r4, k1r5, k1r6, k1w, k109, k109a, k109b, k109c, k109d, k109e, k109f, k109g, kr110, kr112, kr114, kr116, kr118, kr120, kr122]
      refine c_gsize bk1 hC.1.1 ⟨fun q => absurd q (by omega), fun _ => ?_⟩
      refine c_gget bk1 hC.1.1 i0 (by omega) (by omega) (by omega) ?_
      rw [show 16 + 6 * 3 + i = 34 + i by omega]
      refine c_floorOf ha0 ?_
      refine c_climbsDown hC (by omega) (fun h => ⟨fun _ => ⟨⟨by omega, by omega⟩, ?_⟩, fun q => absurd (by decide) q⟩) (fun h => ⟨fun q => absurd rfl q, fun _ => ⟨⟨by omega, by omega⟩, ⟨by omega, by omega⟩, ?_⟩⟩)
      · rw [if_neg (fun e => (sGd_dn w.w0 z0 z1 hat).mp e h), Int.add_zero] at nx
        exact nx
      · rw [if_pos ((sGd_dn w.w0 z0 z1 hat).mpr h)] at nx
        exact nx
  refine e_X5_goersCutOff ?_
  simp only [tX5_goersCutOff_0, w_ic, w_lc, w_lds, w_ild, w_lld, w_ald, w_ist, w_lst, w_ast, w_iinc, w_iadd, w_isub, w_imul, w_idiv, w_irem, w_iand, w_ior, w_ixor, w_ishl, w_ishr, w_iushr, w_ineg, w_ladd, w_lsub, w_lmul, w_ldiv, w_lrem, w_lcmp, w_i2l, w_l2i, w_dup, w_pop, w_dup2, w_ieq, w_zeq, w_ine, w_zne, w_ilt, w_zlt, w_ige, w_zge, w_igt, w_zgt, w_ile, w_zle, w_cut, w_tsw, zsw, w_iret, w_zret, w_lret, w_vret, w_nret, w_getI, w_getJ, w_getR, w_putI, w_putZ, w_putJ, w_iald, w_zald, w_iast, w_zast, w_alen, w_sI, w_sJ, w_sV, w_vI, w_vJ, w_vV, w_tI, w_mmax, w_mmin, w_mabs, w_lmax, w_acopy, gL, sL, kl_i, kl_l, kl_r, kl_s, kl_m, qI_i, qJ_l, qA_r, qA_s, pI_i, pJ_l, pA_r, pS_s, pM_m, pV_v, c1_i, c1_r, c1_s, c1_m, cS_0, cS_i, cS_l, cS_r, cS_s, cS_m, pN, z_rc_r, zE1, zE2, zE3, true_and, and_true, Nat.zero_add, Nat.reduceAdd, Nat.reduceLeDiff, true_or, or_true, q0, qp4, qp5, qp8, qp9, qf0, qz0, qf1, qz1, qf2, qz2, qf3, qz3, qf6, qz6, qf7, qz7, qf10, qz10, qf11, qz11, qf12, qz12, qf13, qz13, qf14, qz14, k1o, k1m, k1f0, k1z0, k1f1, k1z1, k1f2, k1z2, k1f3, k1z3, k1f4, k1z4, k1f5, k1z5, k1f6, k1z6, k1f7, k1z7, k1r0, k1r1, k1r2, k1r3, k1r4, k1r5, k1r6, k1w, k109, k109a, k109b, k109c, k109d, k109e, k109f, k109g, kr110, kr112, kr114, kr116, kr118, kr120, kr122]
  exact loop _ 0 rfl (by omega) c1.1
theorem sLost_b {a : Int → Int} (h : 0 ≤ a 1 ∧ a 1 ≤ 6) : 0 ≤ sLost a ∧ sLost a ≤ 6 := by
  have := zsum_b (f := fun i => if sGd (sOp a) (a (34 + i)) = -1 then (1 : Int) else 0) (m := 1) (a 1).toNat (fun k _ _ => by split <;> omega)
  unfold sLost
  omega
noncomputable def sCut (a : Int → Int) : Nat → Int × Int
  | 0 => (-1, -1)
  | n + 1 => if a (10 + n) = 1 ∧ (sCut a n).2 < sLost (zA a (10 + n) 0) then ((n : Int), sLost (zA a (10 + n) 0)) else sCut a n
theorem sCut_s {a : Int → Int} {i : Int} (h : 0 ≤ i) : sCut a (i + 1).toNat = if a (10 + i) = 1 ∧ (sCut a i.toNat).2 < sLost (zA a (10 + i) 0) then (i, sLost (zA a (10 + i) 0)) else sCut a i.toNat := by
  rw [show (i + 1).toNat = i.toNat + 1 by omega]
  show (if a (10 + (i.toNat : Int)) = 1 ∧ (sCut a i.toNat).2 < sLost (zA a (10 + (i.toNat : Int)) 0) then ((i.toNat : Int), sLost (zA a (10 + (i.toNat : Int)) 0)) else sCut a i.toNat) = _
  rw [Int.toNat_of_nonneg h]
noncomputable def r_cut (s : Mem) (w : Int) : Int × Mem := cIf (0 ≤ w ∧ w ≤ 1) (if w = 0 then (sCut (s 0) (s 0 0).toNat).1 else (sCut (s 0) (s 0 0).toNat).2, s) (-2, sRf s 3)
theorem v_cut {n x : Int} {s : Mem} (hW : WS n s) (hn : n < 1000000) : cOK miX5_cut [zr 0, zi x] s (r_cut s x) := by
  intro D P hC hP
  unfold r_cut at hP
  have w := hC.1.1.2.2.1
  have n0 := w.n0
  have c1 := w.n1
  refine e_X5_cut ?_
  simp only [tX5_cut_0, w_ic, w_lc, w_lds, w_ild, w_lld, w_ald, w_ist, w_lst, w_ast, w_iinc, w_iadd, w_isub, w_imul, w_idiv, w_irem, w_iand, w_ior, w_ixor, w_ishl, w_ishr, w_iushr, w_ineg, w_ladd, w_lsub, w_lmul, w_ldiv, w_lrem, w_lcmp, w_i2l, w_l2i, w_dup, w_pop, w_dup2, w_ieq, w_zeq, w_ine, w_zne, w_ilt, w_zlt, w_ige, w_zge, w_igt, w_zgt, w_ile, w_zle, w_cut, w_tsw, zsw, w_iret, w_zret, w_lret, w_vret, w_nret, w_getI, w_getJ, w_getR, w_putI, w_putZ, w_putJ, w_iald, w_zald, w_iast, w_zast, w_alen, w_sI, w_sJ, w_sV, w_vI, w_vJ, w_vV, w_tI, w_mmax, w_mmin, w_mabs, w_lmax, w_acopy, gL, sL, kl_i, kl_l, kl_r, kl_s, kl_m, qI_i, qJ_l, qA_r, qA_s, pI_i, pJ_l, pA_r, pS_s, pM_m, pV_v, c1_i, c1_r, c1_s, c1_m, cS_0, cS_i, cS_l, cS_r, cS_s, cS_m, pN, z_rc_r, zE1, zE2, zE3, true_and, and_true, Nat.zero_add, Nat.reduceAdd, Nat.reduceLeDiff, true_or, or_true, q0, qp4, qp5, qp8, qp9, qf0, qz0, qf1, qz1, qf2, qz2, qf3, qz3, qf6, qz6, qf7, qz7, qf10, qz10, qf11, qz11, qf12, qz12, qf13, qz13, qf14, qz14, k1o, k1m, k1f0, k1z0, k1f1, k1z1, k1f2, k1z2, k1f3, k1z3, k1f4, k1z4, k1f5, k1z5, k1f6, k1z6, k1f7, k1z7, k1r0, k1r1, k1r2, k1r3, k1r4, k1r5, k1r6, k1w, k109, k109a, k109b, k109c, k109d, k109e, k109f, k109g, kr110, kr112, kr114, kr116, kr118, kr120, kr122]
  refine c_within (fun c2 c3 => ⟨fun _ => ?_, fun w => absurd (by decide) w⟩) (fun q => ⟨fun w => absurd rfl w, fun _ => ?_⟩)
  · rw [cIf_t ⟨c2, c3⟩] at hP
    have loop : ∀ (r : Nat) (k : Int) (v : AV), (s 0 0 - k).toNat = r → 0 ≤ k → k ≤ s 0 0 → zW miX5_cut P 21 [zr 0, zi x, zi (sCut (s 0) k.toNat).1, zi (sCut (s 0) k.toNat).2, zi k, v] D := by
      intro r
      induction r with
      | zero =>
        intro k v hr k0 k1
        refine sX5_cut_21 _ _ _ _ _ ?_
        simp only [tX5_cut_21, w_ic, w_lc, w_lds, w_ild, w_lld, w_ald, w_ist, w_lst, w_ast, w_iinc, w_iadd, w_isub, w_imul, w_idiv, w_irem, w_iand, w_ior, w_ixor, w_ishl, w_ishr, w_iushr, w_ineg, w_ladd, w_lsub, w_lmul, w_ldiv, w_lrem, w_lcmp, w_i2l, w_l2i, w_dup, w_pop, w_dup2, w_ieq, w_zeq, w_ine, w_zne, w_ilt, w_zlt, w_ige, w_zge, w_igt, w_zgt, w_ile, w_zle, w_cut, w_tsw, zsw, w_iret, w_zret, w_lret, w_vret, w_nret, w_getI, w_getJ, w_getR, w_putI, w_putZ, w_putJ, w_iald, w_zald, w_iast, w_zast, w_alen, w_sI, w_sJ, w_sV, w_vI, w_vJ, w_vV, w_tI, w_mmax, w_mmin, w_mabs, w_lmax, w_acopy, gL, sL, kl_i, kl_l, kl_r, kl_s, kl_m, qI_i, qJ_l, qA_r, qA_s, pI_i, pJ_l, pA_r, pS_s, pM_m, pV_v, c1_i, c1_r, c1_s, c1_m, cS_0, cS_i, cS_l, cS_r, cS_s, cS_m, pN, z_rc_r, zE1, zE2, zE3, true_and, and_true, Nat.zero_add, Nat.reduceAdd, Nat.reduceLeDiff, true_or, or_true, q0, qp4, qp5, qp8, qp9, qf0, qz0, qf1, qz1, qf2, qz2, qf3, qz3, qf6, qz6, qf7, qz7, qf10, qz10, qf11, qz11, qf12, qz12, qf13, qz13, qf14, qz14, k1o, k1m, k1f0, k1z0, k1f1, k1z1, k1f2, k1z2, k1f3, k1z3, k1f4, k1z4, k1f5, k1z5, k1f6, k1z6, k1f7, k1z7, k1r0, k1r1, k1r2, k1r3, k1r4, k1r5, k1r6, k1w, k109, k109a, k109b, k109c, k109d, k109e, k109f, k109g, kr110, kr112, kr114, kr116, kr118, kr120, kr122]
        refine c_lsize bk1 hC.1.1 ⟨fun _ => ⟨fun q => ?_, fun q => ?_⟩, fun q => absurd (by omega) q⟩
        · rw [show k = s 0 0 by omega]
          have := hP D Fr.rfl hC
          rw [if_neg q] at this
          exact this
        · rw [show k = s 0 0 by omega]
          have := hP D Fr.rfl hC
          rw [if_pos (by omega)] at this
          exact this
      | succ r ih =>
        intro k v hr k0 k1
        have nx := fun v => ih (k + 1) v (by omega) (by omega) (by omega)
        rw [sCut_s k0] at nx
        refine sX5_cut_21 _ _ _ _ _ ?_
        simp only [tX5_cut_21, w_ic, w_lc, w_lds, w_ild, w_lld, w_ald, w_ist, w_lst, w_ast, w_iinc, w_iadd, w_isub, w_imul, w_idiv, w_irem, w_iand, w_ior, w_ixor, w_ishl, w_ishr, w_iushr, w_ineg, w_ladd, w_lsub, w_lmul, w_ldiv, w_lrem, w_lcmp, w_i2l, w_l2i, w_dup, w_pop, w_dup2, w_ieq, w_zeq, w_ine, w_zne, w_ilt, w_zlt, w_ige, w_zge, w_igt, w_zgt, w_ile, w_zle, w_cut, w_tsw, zsw, w_iret, w_zret, w_lret, w_vret, w_nret, w_getI, w_getJ, w_getR, w_putI, w_putZ, w_putJ, w_iald, w_zald, w_iast, w_zast, w_alen, w_sI, w_sJ, w_sV, w_vI, w_vJ, w_vV, w_tI, w_mmax, w_mmin, w_mabs, w_lmax, w_acopy, gL, sL, kl_i, kl_l, kl_r, kl_s, kl_m, qI_i, qJ_l, qA_r, qA_s, pI_i, pJ_l, pA_r, pS_s, pM_m, pV_v, c1_i, c1_r, c1_s, c1_m, cS_0, cS_i, cS_l, cS_r, cS_s, cS_m, pN, z_rc_r, zE1, zE2, zE3, true_and, and_true, Nat.zero_add, Nat.reduceAdd, Nat.reduceLeDiff, true_or, or_true, q0, qp4, qp5, qp8, qp9, qf0, qz0, qf1, qz1, qf2, qz2, qf3, qz3, qf6, qz6, qf7, qz7, qf10, qz10, qf11, qz11, qf12, qz12, qf13, qz13, qf14, qz14, k1o, k1m, k1f0, k1z0, k1f1, k1z1, k1f2, k1z2, k1f3, k1z3, k1f4, k1z4, k1f5, k1z5, k1f6, k1z6, k1f7, k1z7, k1r0, k1r1, k1r2, k1r3, k1r4, k1r5, k1r6, k1w, k109, k109a, k109b, k109c, k109d, k109e, k109f, k109g, kr110, kr112, kr114, kr116, kr118, kr120, kr122]
        refine c_lsize bk1 hC.1.1 ⟨fun q => absurd q (by omega), fun _ => ?_⟩
        refine c_lget bk1 hC.1.1 k0 (by omega) (by omega) (by omega) ?_
        rw [show 4 + 6 * 1 + k = 10 + k by omega]
        refine ⟨fun q => ?_, fun q => ⟨⟨by omega, by omega⟩, ?_⟩⟩
        · have hd : s 0 (10 + k) = 1 := by
            rcases (w.w0.2 k k0 (by omega)).2 with e | e
            · exact absurd e q
            · exact e
          refine c_goersCutOff hC k0 (by omega) ⟨fun q2 => ⟨⟨by omega, by omega⟩, ?_⟩, fun q2 => ⟨⟨by omega, by omega⟩, ?_⟩⟩
          · rw [if_neg (by omega)] at nx
            exact nx _
          · rw [if_pos ⟨hd, by omega⟩] at nx
            exact nx _
        · rw [if_neg (by omega)] at nx
          exact nx _
    exact loop _ 0 _ rfl (by omega) n0.1
  · rw [cIf_f (by omega)] at hP
    exact c_bad hC hW hn hP
def zMx : Nat → (Int → Int) → Int
  | 0, _ => 0
  | n + 1, f => max (zMx n f) (f n)
theorem zMx_s {f : Int → Int} {i : Int} (h : 0 ≤ i) : zMx (i + 1).toNat f = max (zMx i.toNat f) (f i) := by
  rw [show (i + 1).toNat = i.toNat + 1 by omega]
  show max (zMx i.toNat f) (f (i.toNat : Int)) = _
  rw [Int.toNat_of_nonneg h]
noncomputable def r_down (s : Mem) (w : Int) : Int × Mem := cIf (0 ≤ w ∧ w ≤ 1) (if w = 0 then zMx (s 0 1).toNat (fun i => sGd (sOp (s 0)) (s 0 (34 + i))) else zbits (s 0 1).toNat (fun i => if sGd (sOp (s 0)) (s 0 (34 + i)) = -1 then 1 else 0), s) (-2, sRf s 3)
theorem v_down {n x : Int} {s : Mem} (hW : WS n s) (hn : n < 1000000) : cOK miX5_down [zr 0, zi x] s (r_down s x) := by
  intro D P hC hP
  unfold r_down at hP
  have w := hC.1.1.2.2.1
  have c1 := w.n1
  refine e_X5_down ?_
  simp only [tX5_down_0, w_ic, w_lc, w_lds, w_ild, w_lld, w_ald, w_ist, w_lst, w_ast, w_iinc, w_iadd, w_isub, w_imul, w_idiv, w_irem, w_iand, w_ior, w_ixor, w_ishl, w_ishr, w_iushr, w_ineg, w_ladd, w_lsub, w_lmul, w_ldiv, w_lrem, w_lcmp, w_i2l, w_l2i, w_dup, w_pop, w_dup2, w_ieq, w_zeq, w_ine, w_zne, w_ilt, w_zlt, w_ige, w_zge, w_igt, w_zgt, w_ile, w_zle, w_cut, w_tsw, zsw, w_iret, w_zret, w_lret, w_vret, w_nret, w_getI, w_getJ, w_getR, w_putI, w_putZ, w_putJ, w_iald, w_zald, w_iast, w_zast, w_alen, w_sI, w_sJ, w_sV, w_vI, w_vJ, w_vV, w_tI, w_mmax, w_mmin, w_mabs, w_lmax, w_acopy, gL, sL, kl_i, kl_l, kl_r, kl_s, kl_m, qI_i, qJ_l, qA_r, qA_s, pI_i, pJ_l, pA_r, pS_s, pM_m, pV_v, c1_i, c1_r, c1_s, c1_m, cS_0, cS_i, cS_l, cS_r, cS_s, cS_m, pN, z_rc_r, zE1, zE2, zE3, true_and, and_true, Nat.zero_add, Nat.reduceAdd, Nat.reduceLeDiff, true_or, or_true, q0, qp4, qp5, qp8, qp9, qf0, qz0, qf1, qz1, qf2, qz2, qf3, qz3, qf6, qz6, qf7, qz7, qf10, qz10, qf11, qz11, qf12, qz12, qf13, qz13, qf14, qz14, k1o, k1m, k1f0, k1z0, k1f1, k1z1, k1f2, k1z2, k1f3, k1z3, k1f4, k1z4, k1f5, k1z5, k1f6, k1z6, k1f7, k1z7, k1r0, k1r1, k1r2, k1r3, k1r4, k1r5, k1r6, k1w, k109, k109a, k109b, k109c, k109d, k109e, k109f, k109g, kr110, kr112, kr114, kr116, kr118, kr120, kr122]
  refine c_within (fun c2 c3 => ⟨fun _ => ?_, fun w => absurd (by decide) w⟩) (fun q => ⟨fun w => absurd rfl w, fun _ => ?_⟩)
  · rw [cIf_t ⟨c2, c3⟩] at hP
    have loop : ∀ (r : Nat) (i : Int) (v : AV) (D2 : Mem), (s 0 1 - i).toNat = r → 0 ≤ i → i ≤ s 0 1 → Fr 0 124 D D2 → CS D2 s → zW miX5_down P 21 [zr 0, zi x, zi (zMx i.toNat (fun i => sGd (sOp (s 0)) (s 0 (34 + i)))), zi (zbits i.toNat (fun i => if sGd (sOp (s 0)) (s 0 (34 + i)) = -1 then 1 else 0)), zi i, v] D2 := by
      intro r
      induction r with
      | zero =>
        intro i v D2 hr i0 i1 e1 e2
        refine sX5_down_21 _ _ _ _ _ ?_
        simp only [tX5_down_21, w_ic, w_lc, w_lds, w_ild, w_lld, w_ald, w_ist, w_lst, w_ast, w_iinc, w_iadd, w_isub, w_imul, w_idiv, w_irem, w_iand, w_ior, w_ixor, w_ishl, w_ishr, w_iushr, w_ineg, w_ladd, w_lsub, w_lmul, w_ldiv, w_lrem, w_lcmp, w_i2l, w_l2i, w_dup, w_pop, w_dup2, w_ieq, w_zeq, w_ine, w_zne, w_ilt, w_zlt, w_ige, w_zge, w_igt, w_zgt, w_ile, w_zle, w_cut, w_tsw, zsw, w_iret, w_zret, w_lret, w_vret, w_nret, w_getI, w_getJ, w_getR, w_putI, w_putZ, w_putJ, w_iald, w_zald, w_iast, w_zast, w_alen, w_sI, w_sJ, w_sV, w_vI, w_vJ, w_vV, w_tI, w_mmax, w_mmin, w_mabs, w_lmax, w_acopy, gL, sL, kl_i, kl_l, kl_r, kl_s, kl_m, qI_i, qJ_l, qA_r, qA_s, pI_i, pJ_l, pA_r, pS_s, pM_m, pV_v, c1_i, c1_r, c1_s, c1_m, cS_0, cS_i, cS_l, cS_r, cS_s, cS_m, pN, z_rc_r, zE1, zE2, zE3, true_and, and_true, Nat.zero_add, Nat.reduceAdd, Nat.reduceLeDiff, true_or, or_true, q0, qp4, qp5, qp8, qp9, qf0, qz0, qf1, qz1, qf2, qz2, qf3, qz3, qf6, qz6, qf7, qz7, qf10, qz10, qf11, qz11, qf12, qz12, qf13, qz13, qf14, qz14, k1o, k1m, k1f0, k1z0, k1f1, k1z1, k1f2, k1z2, k1f3, k1z3, k1f4, k1z4, k1f5, k1z5, k1f6, k1z6, k1f7, k1z7, k1r0, k1r1, k1r2, k1r3, k1r4, k1r5, k1r6, k1w, k109, k109a, k109b, k109c, k109d, k109e, k109f, k109g, kr110, kr112, kr114, kr116, kr118, kr120, kr122]
        refine c_gsize bk1 e2.1.1 ⟨fun _ => ⟨fun q => ?_, fun q => ?_⟩, fun q => absurd (by omega) q⟩
        · rw [show i = s 0 1 by omega]
          have := hP D2 e1 e2
          rw [if_neg q] at this
          exact this
        · rw [show i = s 0 1 by omega]
          have := hP D2 e1 e2
          rw [if_pos (by omega)] at this
          exact this
      | succ r ih =>
        intro i v D2 hr i0 i1 e1 e2
        have hat : inC (s 0 (34 + i)) := (w.w1.2 i i0 (by omega)).2.2.2.1
        have zb := zbits_b (f := fun i => if sGd (sOp (s 0)) (s 0 (34 + i)) = -1 then (1 : Int) else 0) i.toNat
        refine sX5_down_21 _ _ _ _ _ ?_
        simp only [tX5_down_21, w_ic, w_lc, w_lds, w_ild, w_lld, w_ald, w_ist, w_lst, w_ast, w_iinc, w_iadd, w_isub, w_imul, w_idiv, w_irem, w_iand, w_ior, w_ixor, w_ishl, w_ishr, w_iushr, w_ineg, w_ladd, w_lsub, w_lmul, w_ldiv, w_lrem, w_lcmp, w_i2l, w_l2i, w_dup, w_pop, w_dup2, w_ieq, w_zeq, w_ine, w_zne, w_ilt, w_zlt, w_ige, w_zge, w_igt, w_zgt, w_ile, w_zle, w_cut, w_tsw, zsw, w_iret, w_zret, w_lret, w_vret, w_nret, w_getI, w_getJ, w_getR, w_putI, w_putZ, w_putJ, w_iald, w_zald, w_iast, w_zast, w_alen, w_sI, w_sJ, w_sV, w_vI, w_vJ, w_vV, w_tI, w_mmax, w_mmin, w_mabs, w_lmax, w_acopy, gL, sL, kl_i, kl_l, kl_r, kl_s, kl_m, qI_i, qJ_l, qA_r, qA_s, pI_i, pJ_l, pA_r, pS_s, pM_m, pV_v, c1_i, c1_r, c1_s, c1_m, cS_0, cS_i, cS_l, cS_r, cS_s, cS_m, pN, z_rc_r, zE1, zE2, zE3, true_and, and_true, Nat.zero_add, Nat.reduceAdd, Nat.reduceLeDiff, true_or, or_true, q0, qp4, qp5, qp8, qp9, qf0, qz0, qf1, qz1, qf2, qz2, qf3, qz3, qf6, qz6, qf7, qz7, qf10, qz10, qf11, qz11, qf12, qz12, qf13, qz13, qf14, qz14, k1o, k1m, k1f0, k1z0, k1f1, k1z1, k1f2, k1z2, k1f3, k1z3, k1f4, k1z4, k1f5, k1z5, k1f6, k1z6, k1f7, k1z7, k1r0, k1r1, k1r2, k1r3, k1r4, k1r5, k1r6, k1w, k109, k109a, k109b, k109c, k109d, k109e, k109f, k109g, kr110, kr112, kr114, kr116, kr118, kr120, kr122]
        refine c_gsize bk1 e2.1.1 ⟨fun q => absurd q (by omega), fun _ => ?_⟩
        refine c_gget bk1 e2.1.1 i0 (by omega) (by omega) (by omega) ?_
        rw [show 16 + 6 * 3 + i = 34 + i by omega]
        refine c_stepsToGround bk1 e2.1.1 hat fun D3 d1 d2 => ?_
        have nx := fun v => ih (i + 1) v D3 (by omega) (by omega) (by omega) (e1.trans (d1.wide (by omega) (by omega))) (e2.same (d1.wide (by omega) (by omega)) d2)
        rw [zMx_s i0, zbits_s i0] at nx
        refine ⟨fun q => ⟨⟨by omega, by omega⟩, ?_⟩, fun q => ⟨⟨by omega, by omega⟩, ?_⟩⟩
        · rw [if_neg q, if_pos rfl, Int.add_zero] at nx
          exact nx _
        · rw [if_pos (Decidable.not_not.mp q), if_neg (by decide), ← bO_add i0 (by omega) zb.1 zb.2] at nx
          exact nx _
    exact loop _ 0 _ D rfl (by omega) c1.1 Fr.rfl hC
  · rw [cIf_f (by omega)] at hP
    exact c_bad hC hW hn hP
-- what was told
theorem c_sget {M : Int} {b : Nat} {a : Int → Int} {k c : Int} {D : Mem} {P : Int → Mem → Prop} (hb : zBk b) (h : BK M D b a) (k0 : 0 ≤ k) (k1 : k < a 54) (c0 : 0 ≤ c) (c1 : c < 3) (hP : P (a (55 + 3 * k + c)) D) : zC miX3_get [zr (b + 10), zi k, zi c] D P := by
  refine c_Rows_get hb.r3 h.1.2.2.2.1 k0 (by rw [h.2.1.s.1]; exact k1) c0 c1 ?_
  rw [show ((3 : Nat) : Int) = 3 from rfl, h.2.1.s.2 k c k0 k1 c0 c1]
  exact hP
theorem c_nget {M : Int} {b : Nat} {a : Int → Int} {k c : Int} {D : Mem} {P : Int → Mem → Prop} (hb : zBk b) (h : BK M D b a) (k0 : 0 ≤ k) (k1 : k < a 70) (c0 : 0 ≤ c) (c1 : c < 4) (hP : P (a (71 + 4 * k + c)) D) : zC miX3_get [zr (b + 13), zi k, zi c] D P := by
  refine c_Rows_get hb.r4 h.1.2.2.2.2.1 k0 (by rw [h.2.1.n.1]; exact k1) c0 c1 ?_
  rw [show ((4 : Nat) : Int) = 4 from rfl, h.2.1.n.2 k c k0 k1 c0 c1]
  exact hP
theorem c_kget {M : Int} {b : Nat} {a : Int → Int} {k c : Int} {D : Mem} {P : Int → Mem → Prop} (hb : zBk b) (h : BK M D b a) (k0 : 0 ≤ k) (k1 : k < a 95) (c0 : 0 ≤ c) (c1 : c < 4) (hP : P (a (96 + 4 * k + c)) D) : zC miX3_get [zr (b + 16), zi k, zi c] D P := by
  refine c_Rows_get hb.r5 h.1.2.2.2.2.2.1 k0 (by rw [h.2.1.k.1]; exact k1) c0 c1 ?_
  rw [show ((4 : Nat) : Int) = 4 from rfl, h.2.1.k.2 k c k0 k1 c0 c1]
  exact hP
def okN (a : Int → Int) (kd i n : Int) : Prop := a (71 + 4 * n) = i → zLo kd (a (72 + 4 * n)) (a (73 + 4 * n)) = a (74 + 4 * n)
def sFN (a : Int → Int) (i kd : Int) : Prop := ∀ n, 0 ≤ n → n < a 70 → okN a kd i n
noncomputable def sGK (a : Int → Int) (i : Int) : Int := zbits 6 (fun kd => cIf (sFN a i kd) 1 0)
theorem c_fitsNotes {D s : Mem} {kd i : Int} {P : Int → Mem → Prop} (hC : CS D s) (k0 : 0 ≤ kd) (k1 : kd < 6) (h1 : sFN (s 0) i kd → P 1 D) (h0 : ¬ sFN (s 0) i kd → P 0 D) : zC miX5_fitsNotes [zr 0, zi kd, zi i] D P := by
  have h := hC.1.1
  have w := h.2.2.1
  have n5 := w.n5
  have loop : ∀ (r : Nat) (n : Int), (s 0 70 - n).toNat = r → 0 ≤ n → n ≤ s 0 70 → (∀ m, 0 ≤ m → m < n → okN (s 0) kd i m) → zW miX5_fitsNotes P 2 [zr 0, zi kd, zi i, zi n] D := by
    intro r
    induction r with
    | zero =>
      intro n hr n0 n1 hn
      refine sX5_fitsNotes_2 _ _ _ _ _ ?_
      simp only [tX5_fitsNotes_2, w_ic, w_lc, w_lds, w_ild, w_lld, w_ald, w_ist, w_lst, w_ast, w_iinc, w_iadd, w_isub, w_imul, w_idiv, w_irem, w_iand, w_ior, w_ixor, w_ishl, w_ishr, w_iushr, w_ineg, w_ladd, w_lsub, w_lmul, w_ldiv, w_lrem, w_lcmp, w_i2l, w_l2i, w_dup, w_pop, w_dup2, w_ieq, w_zeq, w_ine, w_zne, w_ilt, w_zlt, w_ige, w_zge, w_igt, w_zgt, w_ile, w_zle, w_cut, w_tsw, zsw, w_iret, w_zret, w_lret, w_vret, w_nret, w_getI, w_getJ, w_getR, w_putI, w_putZ, w_putJ, w_iald, w_zald, w_iast, w_zast, w_alen, w_sI, w_sJ, w_sV, w_vI, w_vJ, w_vV, w_tI, w_mmax, w_mmin, w_mabs, w_lmax, w_acopy, gL, sL, kl_i, kl_l, kl_r, kl_s, kl_m, qI_i, qJ_l, qA_r, qA_s, pI_i, pJ_l, pA_r, pS_s, pM_m, pV_v, c1_i, c1_r, c1_s, c1_m, cS_0, cS_i, cS_l, cS_r, cS_s, cS_m, pN, z_rc_r, zE1, zE2, zE3, true_and, and_true, Nat.zero_add, Nat.reduceAdd, Nat.reduceLeDiff, true_or, or_true, q0, qp4, qp5, qp8, qp9, qf0, qz0, qf1, qz1, qf2, qz2, qf3, qz3, qf6, qz6, qf7, qz7, qf10, qz10, qf11, qz11, qf12, qz12, qf13, qz13, qf14, qz14, k1o, k1m, k1f0, k1z0, k1f1, k1z1, k1f2, k1z2, k1f3, k1z3, k1f4, k1z4, k1f5, k1z5, k1f6, k1z6, k1f7, k1z7, k1r0, k1r1, k1r2, k1r3, k1r4, k1r5, k1r6, k1w, k109, k109a, k109b, k109c, k109d, k109e, k109f, k109g, kr110, kr112, kr114, kr116, kr118, kr120, kr122]
      refine c_Rows_size bk1.r4 ?_
      rw [h.2.1.n.1]
      exact ⟨fun _ => h1 fun m m0 m1 => hn m m0 (by omega), fun q => absurd (by omega) q⟩
    | succ r ih =>
      intro n hr n0 n1 hn
      have go : okN (s 0) kd i n → zR (n + 1) ∧ zW miX5_fitsNotes P 2 [zr 0, zi kd, zi i, zi (n + 1)] D := fun q => ⟨⟨by omega, by omega⟩, ih (n + 1) (by omega) (by omega) (by omega) fun m m0 m1 => by
        by_cases e : m = n
        · rw [e]; exact q
        · exact hn m m0 (by omega)⟩
      have hw := w.w5.2 n n0 (by omega)
      refine sX5_fitsNotes_2 _ _ _ _ _ ?_
      simp only [tX5_fitsNotes_2, w_ic, w_lc, w_lds, w_ild, w_lld, w_ald, w_ist, w_lst, w_ast, w_iinc, w_iadd, w_isub, w_imul, w_idiv, w_irem, w_iand, w_ior, w_ixor, w_ishl, w_ishr, w_iushr, w_ineg, w_ladd, w_lsub, w_lmul, w_ldiv, w_lrem, w_lcmp, w_i2l, w_l2i, w_dup, w_pop, w_dup2, w_ieq, w_zeq, w_ine, w_zne, w_ilt, w_zlt, w_ige, w_zge, w_igt, w_zgt, w_ile, w_zle, w_cut, w_tsw, zsw, w_iret, w_zret, w_lret, w_vret, w_nret, w_getI, w_getJ, w_getR, w_putI, w_putZ, w_putJ, w_iald, w_zald, w_iast, w_zast, w_alen, w_sI, w_sJ, w_sV, w_vI, w_vJ, w_vV, w_tI, w_mmax, w_mmin, w_mabs, w_lmax, w_acopy, gL, sL, kl_i, kl_l, kl_r, kl_s, kl_m, qI_i, qJ_l, qA_r, qA_s, pI_i, pJ_l, pA_r, pS_s, pM_m, pV_v, c1_i, c1_r, c1_s, c1_m, cS_0, cS_i, cS_l, cS_r, cS_s, cS_m, pN, z_rc_r, zE1, zE2, zE3, true_and, and_true, Nat.zero_add, Nat.reduceAdd, Nat.reduceLeDiff, true_or, or_true, q0, qp4, qp5, qp8, qp9, qf0, qz0, qf1, qz1, qf2, qz2, qf3, qz3, qf6, qz6, qf7, qz7, qf10, qz10, qf11, qz11, qf12, qz12, qf13, qz13, qf14, qz14, k1o, k1m, k1f0, k1z0, k1f1, k1z1, k1f2, k1z2, k1f3, k1z3, k1f4, k1z4, k1f5, k1z5, k1f6, k1z6, k1f7, k1z7, k1r0, k1r1, k1r2, k1r3, k1r4, k1r5, k1r6, k1w, k109, k109a, k109b, k109c, k109d, k109e, k109f, k109g, kr110, kr112, kr114, kr116, kr118, kr120, kr122]
      refine c_Rows_size bk1.r4 ?_
      rw [h.2.1.n.1]
      refine ⟨fun q => absurd q (by omega), fun _ => ?_⟩
      refine c_nget bk1 h n0 (by omega) (by decide) (by decide) ?_
      rw [show 71 + 4 * n + 0 = 71 + 4 * n by omega]
      refine ⟨fun q => ?_, fun q => go fun e => absurd e q⟩
      refine c_nget bk1 h n0 (by omega) (by decide) (by decide) ?_
      refine c_nget bk1 h n0 (by omega) (by decide) (by decide) ?_
      rw [show 71 + 4 * n + 1 = 72 + 4 * n by omega, show 71 + 4 * n + 2 = 73 + 4 * n by omega]
      refine c_loudness k0 k1 hw.2.1.1 (by omega) hw.2.2.1.1 ?_
      refine c_nget bk1 h n0 (by omega) (by decide) (by decide) ?_
      rw [show 71 + 4 * n + 3 = 74 + 4 * n by omega]
      exact ⟨fun q2 => go fun _ => q2, fun q2 => h0 fun w => q2 (w n n0 (by omega) q)⟩
  refine e_X5_fitsNotes ?_
  simp only [tX5_fitsNotes_0, w_ic, w_lc, w_lds, w_ild, w_lld, w_ald, w_ist, w_lst, w_ast, w_iinc, w_iadd, w_isub, w_imul, w_idiv, w_irem, w_iand, w_ior, w_ixor, w_ishl, w_ishr, w_iushr, w_ineg, w_ladd, w_lsub, w_lmul, w_ldiv, w_lrem, w_lcmp, w_i2l, w_l2i, w_dup, w_pop, w_dup2, w_ieq, w_zeq, w_ine, w_zne, w_ilt, w_zlt, w_ige, w_zge, w_igt, w_zgt, w_ile, w_zle, w_cut, w_tsw, zsw, w_iret, w_zret, w_lret, w_vret, w_nret, w_getI, w_getJ, w_getR, w_putI, w_putZ, w_putJ, w_iald, w_zald, w_iast, w_zast, w_alen, w_sI, w_sJ, w_sV, w_vI, w_vJ, w_vV, w_tI, w_mmax, w_mmin, w_mabs, w_lmax, w_acopy, gL, sL, kl_i, kl_l, kl_r, kl_s, kl_m, qI_i, qJ_l, qA_r, qA_s, pI_i, pJ_l, pA_r, pS_s, pM_m, pV_v, c1_i, c1_r, c1_s, c1_m, cS_0, cS_i, cS_l, cS_r, cS_s, cS_m, pN, z_rc_r, zE1, zE2, zE3, true_and, and_true, Nat.zero_add, Nat.reduceAdd, Nat.reduceLeDiff, true_or, or_true, q0, qp4, qp5, qp8, qp9, qf0, qz0, qf1, qz1, qf2, qz2, qf3, qz3, qf6, qz6, qf7, qz7, qf10, qz10, qf11, qz11, qf12, qz12, qf13, qz13, qf14, qz14, k1o, k1m, k1f0, k1z0, k1f1, k1z1, k1f2, k1z2, k1f3, k1z3, k1f4, k1z4, k1f5, k1z5, k1f6, k1z6, k1f7, k1z7, k1r0, k1r1, k1r2, k1r3, k1r4, k1r5, k1r6, k1w, k109, k109a, k109b, k109c, k109d, k109e, k109f, k109g, kr110, kr112, kr114, kr116, kr118, kr120, kr122]
  exact loop _ 0 rfl (by omega) n5.1 (fun m m0 m1 => by omega)
theorem c_goerKinds {D s : Mem} {i : Int} {P : Int → Mem → Prop} (hC : CS D s) (hP : P (sGK (s 0) i) D) : zC miX5_goerKinds [zr 0, zi i] D P := by
  have loop : ∀ (r : Nat) (k : Int), (6 - k).toNat = r → 0 ≤ k → k ≤ 6 → zW miX5_goerKinds P 4 [zr 0, zi i, zi (zbits k.toNat (fun kd => cIf (sFN (s 0) i kd) 1 0)), zi k] D := by
    intro r
    induction r with
    | zero =>
      intro k hr k0 k1
      refine sX5_goerKinds_4 _ _ _ _ _ ?_
      simp only [tX5_goerKinds_4, w_ic, w_lc, w_lds, w_ild, w_lld, w_ald, w_ist, w_lst, w_ast, w_iinc, w_iadd, w_isub, w_imul, w_idiv, w_irem, w_iand, w_ior, w_ixor, w_ishl, w_ishr, w_iushr, w_ineg, w_ladd, w_lsub, w_lmul, w_ldiv, w_lrem, w_lcmp, w_i2l, w_l2i, w_dup, w_pop, w_dup2, w_ieq, w_zeq, w_ine, w_zne, w_ilt, w_zlt, w_ige, w_zge, w_igt, w_zgt, w_ile, w_zle, w_cut, w_tsw, zsw, w_iret, w_zret, w_lret, w_vret, w_nret, w_getI, w_getJ, w_getR, w_putI, w_putZ, w_putJ, w_iald, w_zald, w_iast, w_zast, w_alen, w_sI, w_sJ, w_sV, w_vI, w_vJ, w_vV, w_tI, w_mmax, w_mmin, w_mabs, w_lmax, w_acopy, gL, sL, kl_i, kl_l, kl_r, kl_s, kl_m, qI_i, qJ_l, qA_r, qA_s, pI_i, pJ_l, pA_r, pS_s, pM_m, pV_v, c1_i, c1_r, c1_s, c1_m, cS_0, cS_i, cS_l, cS_r, cS_s, cS_m, pN, z_rc_r, zE1, zE2, zE3, true_and, and_true, Nat.zero_add, Nat.reduceAdd, Nat.reduceLeDiff, true_or, or_true, q0, qp4, qp5, qp8, qp9, qf0, qz0, qf1, qz1, qf2, qz2, qf3, qz3, qf6, qz6, qf7, qz7, qf10, qz10, qf11, qz11, qf12, qz12, qf13, qz13, qf14, qz14, k1o, k1m, k1f0, k1z0, k1f1, k1z1, k1f2, k1z2, k1f3, k1z3, k1f4, k1z4, k1f5, k1z5, k1f6, k1z6, k1f7, k1z7, k1r0, k1r1, k1r2, k1r3, k1r4, k1r5, k1r6, k1w, k109, k109a, k109b, k109c, k109d, k109e, k109f, k109g, kr110, kr112, kr114, kr116, kr118, kr120, kr122]
      refine ⟨fun _ => ?_, fun q => absurd (by omega) q⟩
      rw [show k = 6 by omega]
      exact hP
    | succ r ih =>
      intro k hr k0 k1
      have zb := zbits_b (f := fun kd => cIf (sFN (s 0) i kd) 1 0) k.toNat
      have nx := ih (k + 1) (by omega) (by omega) (by omega)
      rw [zbits_s k0] at nx
      refine sX5_goerKinds_4 _ _ _ _ _ ?_
      simp only [tX5_goerKinds_4, w_ic, w_lc, w_lds, w_ild, w_lld, w_ald, w_ist, w_lst, w_ast, w_iinc, w_iadd, w_isub, w_imul, w_idiv, w_irem, w_iand, w_ior, w_ixor, w_ishl, w_ishr, w_iushr, w_ineg, w_ladd, w_lsub, w_lmul, w_ldiv, w_lrem, w_lcmp, w_i2l, w_l2i, w_dup, w_pop, w_dup2, w_ieq, w_zeq, w_ine, w_zne, w_ilt, w_zlt, w_ige, w_zge, w_igt, w_zgt, w_ile, w_zle, w_cut, w_tsw, zsw, w_iret, w_zret, w_lret, w_vret, w_nret, w_getI, w_getJ, w_getR, w_putI, w_putZ, w_putJ, w_iald, w_zald, w_iast, w_zast, w_alen, w_sI, w_sJ, w_sV, w_vI, w_vJ, w_vV, w_tI, w_mmax, w_mmin, w_mabs, w_lmax, w_acopy, gL, sL, kl_i, kl_l, kl_r, kl_s, kl_m, qI_i, qJ_l, qA_r, qA_s, pI_i, pJ_l, pA_r, pS_s, pM_m, pV_v, c1_i, c1_r, c1_s, c1_m, cS_0, cS_i, cS_l, cS_r, cS_s, cS_m, pN, z_rc_r, zE1, zE2, zE3, true_and, and_true, Nat.zero_add, Nat.reduceAdd, Nat.reduceLeDiff, true_or, or_true, q0, qp4, qp5, qp8, qp9, qf0, qz0, qf1, qz1, qf2, qz2, qf3, qz3, qf6, qz6, qf7, qz7, qf10, qz10, qf11, qz11, qf12, qz12, qf13, qz13, qf14, qz14, k1o, k1m, k1f0, k1z0, k1f1, k1z1, k1f2, k1z2, k1f3, k1z3, k1f4, k1z4, k1f5, k1z5, k1f6, k1z6, k1f7, k1z7, k1r0, k1r1, k1r2, k1r3, k1r4, k1r5, k1r6, k1w, k109, k109a, k109b, k109c, k109d, k109e, k109f, k109g, kr110, kr112, kr114, kr116, kr118, kr120, kr122]
      refine ⟨fun q => absurd q (by omega), fun _ => ?_⟩
      refine c_fitsNotes hC k0 (by omega) (fun q => ⟨fun w => absurd w (by decide), fun _ => ⟨⟨by omega, by omega⟩, ?_⟩⟩) (fun q => ⟨fun _ => ⟨⟨by omega, by omega⟩, ?_⟩, fun w => absurd rfl w⟩)
      · rw [cIf_t q, if_neg (by decide), ← bO_add k0 (by omega) zb.1 zb.2] at nx
        exact nx
      · rw [cIf_f q, if_pos rfl, Int.add_zero] at nx
        exact nx
  refine e_X5_goerKinds ?_
  simp only [tX5_goerKinds_0, w_ic, w_lc, w_lds, w_ild, w_lld, w_ald, w_ist, w_lst, w_ast, w_iinc, w_iadd, w_isub, w_imul, w_idiv, w_irem, w_iand, w_ior, w_ixor, w_ishl, w_ishr, w_iushr, w_ineg, w_ladd, w_lsub, w_lmul, w_ldiv, w_lrem, w_lcmp, w_i2l, w_l2i, w_dup, w_pop, w_dup2, w_ieq, w_zeq, w_ine, w_zne, w_ilt, w_zlt, w_ige, w_zge, w_igt, w_zgt, w_ile, w_zle, w_cut, w_tsw, zsw, w_iret, w_zret, w_lret, w_vret, w_nret, w_getI, w_getJ, w_getR, w_putI, w_putZ, w_putJ, w_iald, w_zald, w_iast, w_zast, w_alen, w_sI, w_sJ, w_sV, w_vI, w_vJ, w_vV, w_tI, w_mmax, w_mmin, w_mabs, w_lmax, w_acopy, gL, sL, kl_i, kl_l, kl_r, kl_s, kl_m, qI_i, qJ_l, qA_r, qA_s, pI_i, pJ_l, pA_r, pS_s, pM_m, pV_v, c1_i, c1_r, c1_s, c1_m, cS_0, cS_i, cS_l, cS_r, cS_s, cS_m, pN, z_rc_r, zE1, zE2, zE3, true_and, and_true, Nat.zero_add, Nat.reduceAdd, Nat.reduceLeDiff, true_or, or_true, q0, qp4, qp5, qp8, qp9, qf0, qz0, qf1, qz1, qf2, qz2, qf3, qz3, qf6, qz6, qf7, qz7, qf10, qz10, qf11, qz11, qf12, qz12, qf13, qz13, qf14, qz14, k1o, k1m, k1f0, k1z0, k1f1, k1z1, k1f2, k1z2, k1f3, k1z3, k1f4, k1z4, k1f5, k1z5, k1f6, k1z6, k1f7, k1z7, k1r0, k1r1, k1r2, k1r3, k1r4, k1r5, k1r6, k1w, k109, k109a, k109b, k109c, k109d, k109e, k109f, k109g, kr110, kr112, kr114, kr116, kr118, kr120, kr122]
  exact loop _ 0 rfl (by omega) (by omega)
noncomputable def r_is (s : Mem) (i : Int) : Int × Mem := cIf (0 ≤ i ∧ i < s 0 1) (sGK (s 0) i, s) (-2, sRf s 3)
theorem v_is {n i : Int} {s : Mem} (hW : WS n s) (hn : n < 1000000) : cOK miX5_is [zr 0, zi i] s (r_is s i) := by
  intro D P hC hP
  have h := hC.1.1
  unfold r_is at hP
  refine e_X5_is ?_
  simp only [tX5_is_0, w_ic, w_lc, w_lds, w_ild, w_lld, w_ald, w_ist, w_lst, w_ast, w_iinc, w_iadd, w_isub, w_imul, w_idiv, w_irem, w_iand, w_ior, w_ixor, w_ishl, w_ishr, w_iushr, w_ineg, w_ladd, w_lsub, w_lmul, w_ldiv, w_lrem, w_lcmp, w_i2l, w_l2i, w_dup, w_pop, w_dup2, w_ieq, w_zeq, w_ine, w_zne, w_ilt, w_zlt, w_ige, w_zge, w_igt, w_zgt, w_ile, w_zle, w_cut, w_tsw, zsw, w_iret, w_zret, w_lret, w_vret, w_nret, w_getI, w_getJ, w_getR, w_putI, w_putZ, w_putJ, w_iald, w_zald, w_iast, w_zast, w_alen, w_sI, w_sJ, w_sV, w_vI, w_vJ, w_vV, w_tI, w_mmax, w_mmin, w_mabs, w_lmax, w_acopy, gL, sL, kl_i, kl_l, kl_r, kl_s, kl_m, qI_i, qJ_l, qA_r, qA_s, pI_i, pJ_l, pA_r, pS_s, pM_m, pV_v, c1_i, c1_r, c1_s, c1_m, cS_0, cS_i, cS_l, cS_r, cS_s, cS_m, pN, z_rc_r, zE1, zE2, zE3, true_and, and_true, Nat.zero_add, Nat.reduceAdd, Nat.reduceLeDiff, true_or, or_true, q0, qp4, qp5, qp8, qp9, qf0, qz0, qf1, qz1, qf2, qz2, qf3, qz3, qf6, qz6, qf7, qz7, qf10, qz10, qf11, qz11, qf12, qz12, qf13, qz13, qf14, qz14, k1o, k1m, k1f0, k1z0, k1f1, k1z1, k1f2, k1z2, k1f3, k1z3, k1f4, k1z4, k1f5, k1z5, k1f6, k1z6, k1f7, k1z7, k1r0, k1r1, k1r2, k1r3, k1r4, k1r5, k1r6, k1w, k109, k109a, k109b, k109c, k109d, k109e, k109f, k109g, kr110, kr112, kr114, kr116, kr118, kr120, kr122]
  refine c_Rows_has bk1.r1 (fun c0 c1 => ⟨fun _ => ?_, fun w => absurd (by decide) w⟩) (fun q => ⟨fun w => absurd rfl w, fun _ => ?_⟩)
  · rw [h.2.1.1.2.1] at c1
    rw [cIf_t ⟨c0, c1⟩] at hP
    exact c_goerKinds hC (hP D Fr.rfl hC)
  · rw [h.2.1.1.2.1] at q
    rw [cIf_f q] at hP
    exact c_bad hC hW hn hP
def okM (a : Int → Int) (kd i n : Int) : Prop := a (96 + 4 * n) = i → (1 ≤ zHe kd (a (97 + 4 * n)) (a (98 + 4 * n)) ↔ a (99 + 4 * n) = 1)
def sFM (a : Int → Int) (i kd : Int) : Prop := ∀ n, 0 ≤ n → n < a 95 → okM a kd i n
noncomputable def sWK (a : Int → Int) (i : Int) : Int := zbits 6 (fun kd => cIf (sFM a i kd) 1 0)
theorem c_fitsMarks {D s : Mem} {kd i : Int} {P : Int → Mem → Prop} (hC : CS D s) (k0 : 0 ≤ kd) (k1 : kd < 6) (h1 : sFM (s 0) i kd → P 1 D) (h0 : ¬ sFM (s 0) i kd → P 0 D) : zC miX5_fitsMarks [zr 0, zi kd, zi i] D P := by
  have h := hC.1.1
  have w := h.2.2.1
  have n5 := w.n6
  have loop : ∀ (r : Nat) (n : Int) (v : AV), (s 0 95 - n).toNat = r → 0 ≤ n → n ≤ s 0 95 → (∀ m, 0 ≤ m → m < n → okM (s 0) kd i m) → zW miX5_fitsMarks P 2 [zr 0, zi kd, zi i, zi n, v] D := by
    intro r
    induction r with
    | zero =>
      intro n v hr n0 n1 hn
      refine sX5_fitsMarks_2 _ _ _ _ _ ?_
      simp only [tX5_fitsMarks_2, w_ic, w_lc, w_lds, w_ild, w_lld, w_ald, w_ist, w_lst, w_ast, w_iinc, w_iadd, w_isub, w_imul, w_idiv, w_irem, w_iand, w_ior, w_ixor, w_ishl, w_ishr, w_iushr, w_ineg, w_ladd, w_lsub, w_lmul, w_ldiv, w_lrem, w_lcmp, w_i2l, w_l2i, w_dup, w_pop, w_dup2, w_ieq, w_zeq, w_ine, w_zne, w_ilt, w_zlt, w_ige, w_zge, w_igt, w_zgt, w_ile, w_zle, w_cut, w_tsw, zsw, w_iret, w_zret, w_lret, w_vret, w_nret, w_getI, w_getJ, w_getR, w_putI, w_putZ, w_putJ, w_iald, w_zald, w_iast, w_zast, w_alen, w_sI, w_sJ, w_sV, w_vI, w_vJ, w_vV, w_tI, w_mmax, w_mmin, w_mabs, w_lmax, w_acopy, gL, sL, kl_i, kl_l, kl_r, kl_s, kl_m, qI_i, qJ_l, qA_r, qA_s, pI_i, pJ_l, pA_r, pS_s, pM_m, pV_v, c1_i, c1_r, c1_s, c1_m, cS_0, cS_i, cS_l, cS_r, cS_s, cS_m, pN, z_rc_r, zE1, zE2, zE3, true_and, and_true, Nat.zero_add, Nat.reduceAdd, Nat.reduceLeDiff, true_or, or_true, q0, qp4, qp5, qp8, qp9, qf0, qz0, qf1, qz1, qf2, qz2, qf3, qz3, qf6, qz6, qf7, qz7, qf10, qz10, qf11, qz11, qf12, qz12, qf13, qz13, qf14, qz14, k1o, k1m, k1f0, k1z0, k1f1, k1z1, k1f2, k1z2, k1f3, k1z3, k1f4, k1z4, k1f5, k1z5, k1f6, k1z6, k1f7, k1z7, k1r0, k1r1, k1r2, k1r3, k1r4, k1r5, k1r6, k1w, k109, k109a, k109b, k109c, k109d, k109e, k109f, k109g, kr110, kr112, kr114, kr116, kr118, kr120, kr122]
      refine c_Rows_size bk1.r5 ?_
      rw [h.2.1.k.1]
      exact ⟨fun _ => h1 fun m m0 m1 => hn m m0 (by omega), fun q => absurd (by omega) q⟩
    | succ r ih =>
      intro n v hr n0 n1 hn
      have go : okM (s 0) kd i n → ∀ v, zR (n + 1) ∧ zW miX5_fitsMarks P 2 [zr 0, zi kd, zi i, zi (n + 1), v] D := fun q v => ⟨⟨by omega, by omega⟩, ih (n + 1) v (by omega) (by omega) (by omega) fun m m0 m1 => by
        by_cases e : m = n
        · rw [e]; exact q
        · exact hn m m0 (by omega)⟩
      have hw := w.w6.2 n n0 (by omega)
      refine sX5_fitsMarks_2 _ _ _ _ _ ?_
      simp only [tX5_fitsMarks_2, w_ic, w_lc, w_lds, w_ild, w_lld, w_ald, w_ist, w_lst, w_ast, w_iinc, w_iadd, w_isub, w_imul, w_idiv, w_irem, w_iand, w_ior, w_ixor, w_ishl, w_ishr, w_iushr, w_ineg, w_ladd, w_lsub, w_lmul, w_ldiv, w_lrem, w_lcmp, w_i2l, w_l2i, w_dup, w_pop, w_dup2, w_ieq, w_zeq, w_ine, w_zne, w_ilt, w_zlt, w_ige, w_zge, w_igt, w_zgt, w_ile, w_zle, w_cut, w_tsw, zsw, w_iret, w_zret, w_lret, w_vret, w_nret, w_getI, w_getJ, w_getR, w_putI, w_putZ, w_putJ, w_iald, w_zald, w_iast, w_zast, w_alen, w_sI, w_sJ, w_sV, w_vI, w_vJ, w_vV, w_tI, w_mmax, w_mmin, w_mabs, w_lmax, w_acopy, gL, sL, kl_i, kl_l, kl_r, kl_s, kl_m, qI_i, qJ_l, qA_r, qA_s, pI_i, pJ_l, pA_r, pS_s, pM_m, pV_v, c1_i, c1_r, c1_s, c1_m, cS_0, cS_i, cS_l, cS_r, cS_s, cS_m, pN, z_rc_r, zE1, zE2, zE3, true_and, and_true, Nat.zero_add, Nat.reduceAdd, Nat.reduceLeDiff, true_or, or_true, q0, qp4, qp5, qp8, qp9, qf0, qz0, qf1, qz1, qf2, qz2, qf3, qz3, qf6, qz6, qf7, qz7, qf10, qz10, qf11, qz11, qf12, qz12, qf13, qz13, qf14, qz14, k1o, k1m, k1f0, k1z0, k1f1, k1z1, k1f2, k1z2, k1f3, k1z3, k1f4, k1z4, k1f5, k1z5, k1f6, k1z6, k1f7, k1z7, k1r0, k1r1, k1r2, k1r3, k1r4, k1r5, k1r6, k1w, k109, k109a, k109b, k109c, k109d, k109e, k109f, k109g, kr110, kr112, kr114, kr116, kr118, kr120, kr122]
      refine c_Rows_size bk1.r5 ?_
      rw [h.2.1.k.1]
      refine ⟨fun q => absurd q (by omega), fun _ => ?_⟩
      refine c_kget bk1 h n0 (by omega) (by decide) (by decide) ?_
      rw [show 96 + 4 * n + 0 = 96 + 4 * n by omega]
      refine ⟨fun q => ?_, fun q => go (fun e => absurd e q) _⟩
      refine c_kget bk1 h n0 (by omega) (by decide) (by decide) ?_
      refine c_kget bk1 h n0 (by omega) (by decide) (by decide) ?_
      rw [show 96 + 4 * n + 1 = 97 + 4 * n by omega, show 96 + 4 * n + 2 = 98 + 4 * n by omega]
      refine c_hearing k0 k1 hw.2.1.1 (by omega) hw.2.2.1.1 (by omega) ?_
      have out : ¬ (1 ≤ zHe kd (s 0 (97 + 4 * n)) (s 0 (98 + 4 * n)) ↔ s 0 (99 + 4 * n) = 1) → P 0 D := fun q2 => h0 fun w => q2 (w n n0 (by omega) q)
      refine ⟨fun g => ?_, fun g => ?_⟩
      all_goals refine c_kget bk1 h n0 (by omega) (by decide) (by decide) ?_
      all_goals rw [show 96 + 4 * n + 3 = 99 + 4 * n by omega]
      · refine ⟨fun g2 => ⟨fun z => ?_, fun z => ?_⟩, fun g2 => ⟨fun z => ?_, fun z => ?_⟩⟩
        all_goals first | exact absurd trivial z | exact absurd z (by decide) | exact go (fun _ => ⟨fun e => by omega, fun e => by omega⟩) _ | exact out (fun e => by omega)
      · refine ⟨fun g2 => ⟨fun z => ?_, fun z => ?_⟩, fun g2 => ⟨fun z => ?_, fun z => ?_⟩⟩
        all_goals first | exact absurd trivial z | exact absurd z (by decide) | exact go (fun _ => ⟨fun e => by omega, fun e => by omega⟩) _ | exact out (fun e => by omega)
  refine e_X5_fitsMarks ?_
  simp only [tX5_fitsMarks_0, w_ic, w_lc, w_lds, w_ild, w_lld, w_ald, w_ist, w_lst, w_ast, w_iinc, w_iadd, w_isub, w_imul, w_idiv, w_irem, w_iand, w_ior, w_ixor, w_ishl, w_ishr, w_iushr, w_ineg, w_ladd, w_lsub, w_lmul, w_ldiv, w_lrem, w_lcmp, w_i2l, w_l2i, w_dup, w_pop, w_dup2, w_ieq, w_zeq, w_ine, w_zne, w_ilt, w_zlt, w_ige, w_zge, w_igt, w_zgt, w_ile, w_zle, w_cut, w_tsw, zsw, w_iret, w_zret, w_lret, w_vret, w_nret, w_getI, w_getJ, w_getR, w_putI, w_putZ, w_putJ, w_iald, w_zald, w_iast, w_zast, w_alen, w_sI, w_sJ, w_sV, w_vI, w_vJ, w_vV, w_tI, w_mmax, w_mmin, w_mabs, w_lmax, w_acopy, gL, sL, kl_i, kl_l, kl_r, kl_s, kl_m, qI_i, qJ_l, qA_r, qA_s, pI_i, pJ_l, pA_r, pS_s, pM_m, pV_v, c1_i, c1_r, c1_s, c1_m, cS_0, cS_i, cS_l, cS_r, cS_s, cS_m, pN, z_rc_r, zE1, zE2, zE3, true_and, and_true, Nat.zero_add, Nat.reduceAdd, Nat.reduceLeDiff, true_or, or_true, q0, qp4, qp5, qp8, qp9, qf0, qz0, qf1, qz1, qf2, qz2, qf3, qz3, qf6, qz6, qf7, qz7, qf10, qz10, qf11, qz11, qf12, qz12, qf13, qz13, qf14, qz14, k1o, k1m, k1f0, k1z0, k1f1, k1z1, k1f2, k1z2, k1f3, k1z3, k1f4, k1z4, k1f5, k1z5, k1f6, k1z6, k1f7, k1z7, k1r0, k1r1, k1r2, k1r3, k1r4, k1r5, k1r6, k1w, k109, k109a, k109b, k109c, k109d, k109e, k109f, k109g, kr110, kr112, kr114, kr116, kr118, kr120, kr122]
  exact loop _ 0 _ rfl (by omega) n5.1 (fun m m0 m1 => by omega)
theorem c_windowKinds {D s : Mem} {i : Int} {P : Int → Mem → Prop} (hC : CS D s) (hP : P (sWK (s 0) i) D) : zC miX5_windowKinds [zr 0, zi i] D P := by
  have loop : ∀ (r : Nat) (k : Int), (6 - k).toNat = r → 0 ≤ k → k ≤ 6 → zW miX5_windowKinds P 4 [zr 0, zi i, zi (zbits k.toNat (fun kd => cIf (sFM (s 0) i kd) 1 0)), zi k] D := by
    intro r
    induction r with
    | zero =>
      intro k hr k0 k1
      refine sX5_windowKinds_4 _ _ _ _ _ ?_
      simp only [tX5_windowKinds_4, w_ic, w_lc, w_lds, w_ild, w_lld, w_ald, w_ist, w_lst, w_ast, w_iinc, w_iadd, w_isub, w_imul, w_idiv, w_irem, w_iand, w_ior, w_ixor, w_ishl, w_ishr, w_iushr, w_ineg, w_ladd, w_lsub, w_lmul, w_ldiv, w_lrem, w_lcmp, w_i2l, w_l2i, w_dup, w_pop, w_dup2, w_ieq, w_zeq, w_ine, w_zne, w_ilt, w_zlt, w_ige, w_zge, w_igt, w_zgt, w_ile, w_zle, w_cut, w_tsw, zsw, w_iret, w_zret, w_lret, w_vret, w_nret, w_getI, w_getJ, w_getR, w_putI, w_putZ, w_putJ, w_iald, w_zald, w_iast, w_zast, w_alen, w_sI, w_sJ, w_sV, w_vI, w_vJ, w_vV, w_tI, w_mmax, w_mmin, w_mabs, w_lmax, w_acopy, gL, sL, kl_i, kl_l, kl_r, kl_s, kl_m, qI_i, qJ_l, qA_r, qA_s, pI_i, pJ_l, pA_r, pS_s, pM_m, pV_v, c1_i, c1_r, c1_s, c1_m, cS_0, cS_i, cS_l, cS_r, cS_s, cS_m, pN, z_rc_r, zE1, zE2, zE3, true_and, and_true, Nat.zero_add, Nat.reduceAdd, Nat.reduceLeDiff, true_or, or_true, q0, qp4, qp5, qp8, qp9, qf0, qz0, qf1, qz1, qf2, qz2, qf3, qz3, qf6, qz6, qf7, qz7, qf10, qz10, qf11, qz11, qf12, qz12, qf13, qz13, qf14, qz14, k1o, k1m, k1f0, k1z0, k1f1, k1z1, k1f2, k1z2, k1f3, k1z3, k1f4, k1z4, k1f5, k1z5, k1f6, k1z6, k1f7, k1z7, k1r0, k1r1, k1r2, k1r3, k1r4, k1r5, k1r6, k1w, k109, k109a, k109b, k109c, k109d, k109e, k109f, k109g, kr110, kr112, kr114, kr116, kr118, kr120, kr122]
      refine ⟨fun _ => ?_, fun q => absurd (by omega) q⟩
      rw [show k = 6 by omega]
      exact hP
    | succ r ih =>
      intro k hr k0 k1
      have zb := zbits_b (f := fun kd => cIf (sFM (s 0) i kd) 1 0) k.toNat
      have nx := ih (k + 1) (by omega) (by omega) (by omega)
      rw [zbits_s k0] at nx
      refine sX5_windowKinds_4 _ _ _ _ _ ?_
      simp only [tX5_windowKinds_4, w_ic, w_lc, w_lds, w_ild, w_lld, w_ald, w_ist, w_lst, w_ast, w_iinc, w_iadd, w_isub, w_imul, w_idiv, w_irem, w_iand, w_ior, w_ixor, w_ishl, w_ishr, w_iushr, w_ineg, w_ladd, w_lsub, w_lmul, w_ldiv, w_lrem, w_lcmp, w_i2l, w_l2i, w_dup, w_pop, w_dup2, w_ieq, w_zeq, w_ine, w_zne, w_ilt, w_zlt, w_ige, w_zge, w_igt, w_zgt, w_ile, w_zle, w_cut, w_tsw, zsw, w_iret, w_zret, w_lret, w_vret, w_nret, w_getI, w_getJ, w_getR, w_putI, w_putZ, w_putJ, w_iald, w_zald, w_iast, w_zast, w_alen, w_sI, w_sJ, w_sV, w_vI, w_vJ, w_vV, w_tI, w_mmax, w_mmin, w_mabs, w_lmax, w_acopy, gL, sL, kl_i, kl_l, kl_r, kl_s, kl_m, qI_i, qJ_l, qA_r, qA_s, pI_i, pJ_l, pA_r, pS_s, pM_m, pV_v, c1_i, c1_r, c1_s, c1_m, cS_0, cS_i, cS_l, cS_r, cS_s, cS_m, pN, z_rc_r, zE1, zE2, zE3, true_and, and_true, Nat.zero_add, Nat.reduceAdd, Nat.reduceLeDiff, true_or, or_true, q0, qp4, qp5, qp8, qp9, qf0, qz0, qf1, qz1, qf2, qz2, qf3, qz3, qf6, qz6, qf7, qz7, qf10, qz10, qf11, qz11, qf12, qz12, qf13, qz13, qf14, qz14, k1o, k1m, k1f0, k1z0, k1f1, k1z1, k1f2, k1z2, k1f3, k1z3, k1f4, k1z4, k1f5, k1z5, k1f6, k1z6, k1f7, k1z7, k1r0, k1r1, k1r2, k1r3, k1r4, k1r5, k1r6, k1w, k109, k109a, k109b, k109c, k109d, k109e, k109f, k109g, kr110, kr112, kr114, kr116, kr118, kr120, kr122]
      refine ⟨fun q => absurd q (by omega), fun _ => ?_⟩
      refine c_fitsMarks hC k0 (by omega) (fun q => ⟨fun w => absurd w (by decide), fun _ => ⟨⟨by omega, by omega⟩, ?_⟩⟩) (fun q => ⟨fun _ => ⟨⟨by omega, by omega⟩, ?_⟩, fun w => absurd rfl w⟩)
      · rw [cIf_t q, if_neg (by decide), ← bO_add k0 (by omega) zb.1 zb.2] at nx
        exact nx
      · rw [cIf_f q, if_pos rfl, Int.add_zero] at nx
        exact nx
  refine e_X5_windowKinds ?_
  simp only [tX5_windowKinds_0, w_ic, w_lc, w_lds, w_ild, w_lld, w_ald, w_ist, w_lst, w_ast, w_iinc, w_iadd, w_isub, w_imul, w_idiv, w_irem, w_iand, w_ior, w_ixor, w_ishl, w_ishr, w_iushr, w_ineg, w_ladd, w_lsub, w_lmul, w_ldiv, w_lrem, w_lcmp, w_i2l, w_l2i, w_dup, w_pop, w_dup2, w_ieq, w_zeq, w_ine, w_zne, w_ilt, w_zlt, w_ige, w_zge, w_igt, w_zgt, w_ile, w_zle, w_cut, w_tsw, zsw, w_iret, w_zret, w_lret, w_vret, w_nret, w_getI, w_getJ, w_getR, w_putI, w_putZ, w_putJ, w_iald, w_zald, w_iast, w_zast, w_alen, w_sI, w_sJ, w_sV, w_vI, w_vJ, w_vV, w_tI, w_mmax, w_mmin, w_mabs, w_lmax, w_acopy, gL, sL, kl_i, kl_l, kl_r, kl_s, kl_m, qI_i, qJ_l, qA_r, qA_s, pI_i, pJ_l, pA_r, pS_s, pM_m, pV_v, c1_i, c1_r, c1_s, c1_m, cS_0, cS_i, cS_l, cS_r, cS_s, cS_m, pN, z_rc_r, zE1, zE2, zE3, true_and, and_true, Nat.zero_add, Nat.reduceAdd, Nat.reduceLeDiff, true_or, or_true, q0, qp4, qp5, qp8, qp9, qf0, qz0, qf1, qz1, qf2, qz2, qf3, qz3, qf6, qz6, qf7, qz7, qf10, qz10, qf11, qz11, qf12, qz12, qf13, qz13, qf14, qz14, k1o, k1m, k1f0, k1z0, k1f1, k1z1, k1f2, k1z2, k1f3, k1z3, k1f4, k1z4, k1f5, k1z5, k1f6, k1z6, k1f7, k1z7, k1r0, k1r1, k1r2, k1r3, k1r4, k1r5, k1r6, k1w, k109, k109a, k109b, k109c, k109d, k109e, k109f, k109g, kr110, kr112, kr114, kr116, kr118, kr120, kr122]
  exact loop _ 0 rfl (by omega) (by omega)
noncomputable def r_kinds (s : Mem) (i : Int) : Int × Mem := cIf (0 ≤ i ∧ i < s 0 2) (sWK (s 0) i, s) (-2, sRf s 3)
theorem v_kinds {n i : Int} {s : Mem} (hW : WS n s) (hn : n < 1000000) : cOK miX5_kinds [zr 0, zi i] s (r_kinds s i) := by
  intro D P hC hP
  have h := hC.1.1
  unfold r_kinds at hP
  refine e_X5_kinds ?_
  simp only [tX5_kinds_0, w_ic, w_lc, w_lds, w_ild, w_lld, w_ald, w_ist, w_lst, w_ast, w_iinc, w_iadd, w_isub, w_imul, w_idiv, w_irem, w_iand, w_ior, w_ixor, w_ishl, w_ishr, w_iushr, w_ineg, w_ladd, w_lsub, w_lmul, w_ldiv, w_lrem, w_lcmp, w_i2l, w_l2i, w_dup, w_pop, w_dup2, w_ieq, w_zeq, w_ine, w_zne, w_ilt, w_zlt, w_ige, w_zge, w_igt, w_zgt, w_ile, w_zle, w_cut, w_tsw, zsw, w_iret, w_zret, w_lret, w_vret, w_nret, w_getI, w_getJ, w_getR, w_putI, w_putZ, w_putJ, w_iald, w_zald, w_iast, w_zast, w_alen, w_sI, w_sJ, w_sV, w_vI, w_vJ, w_vV, w_tI, w_mmax, w_mmin, w_mabs, w_lmax, w_acopy, gL, sL, kl_i, kl_l, kl_r, kl_s, kl_m, qI_i, qJ_l, qA_r, qA_s, pI_i, pJ_l, pA_r, pS_s, pM_m, pV_v, c1_i, c1_r, c1_s, c1_m, cS_0, cS_i, cS_l, cS_r, cS_s, cS_m, pN, z_rc_r, zE1, zE2, zE3, true_and, and_true, Nat.zero_add, Nat.reduceAdd, Nat.reduceLeDiff, true_or, or_true, q0, qp4, qp5, qp8, qp9, qf0, qz0, qf1, qz1, qf2, qz2, qf3, qz3, qf6, qz6, qf7, qz7, qf10, qz10, qf11, qz11, qf12, qz12, qf13, qz13, qf14, qz14, k1o, k1m, k1f0, k1z0, k1f1, k1z1, k1f2, k1z2, k1f3, k1z3, k1f4, k1z4, k1f5, k1z5, k1f6, k1z6, k1f7, k1z7, k1r0, k1r1, k1r2, k1r3, k1r4, k1r5, k1r6, k1w, k109, k109a, k109b, k109c, k109d, k109e, k109f, k109g, kr110, kr112, kr114, kr116, kr118, kr120, kr122]
  refine c_Rows_has bk1.r2 (fun c0 c1 => ⟨fun _ => ?_, fun w => absurd (by decide) w⟩) (fun q => ⟨fun w => absurd rfl w, fun _ => ?_⟩)
  · rw [h.2.1.1.2.2.1] at c1
    rw [cIf_t ⟨c0, c1⟩] at hP
    exact c_windowKinds hC (hP D Fr.rfl hC)
  · rw [h.2.1.1.2.2.1] at q
    rw [cIf_f q] at hP
    exact c_bad hC hW hn hP
noncomputable def okS (a : Int → Int) (i t : Int) : Prop := sAt a i (a (56 + 3 * t)).toNat ≠ sAt a i ((a (56 + 3 * t)).toNat + 1) ∧ zLo (a (16 + i)) (sAt a i (a (56 + 3 * t)).toNat / 4) (a 3 + a (56 + 3 * t)) = a (57 + 3 * t) ∧ 1 ≤ zHe (a (46 + a (55 + 3 * t))) (a (57 + 3 * t)) (zAp (a (50 + a (55 + 3 * t))) (sAt a i (a (56 + 3 * t)).toNat))
noncomputable def sFS (a : Int → Int) (i : Int) : Prop := ∀ t, 0 ≤ t → t < a 54 → okS a i t
theorem c_fitsSounds {D s : Mem} {i : Int} {P : Int → Mem → Prop} (hC : CS D s) (i0 : 0 ≤ i) (i1 : i < s 0 1) (hp : ∀ m : Nat, m ≤ 60 → D 115 m = sAt (s 0) i m) (h1 : sFS (s 0) i → P 1 D) (h0 : ¬ sFS (s 0) i → P 0 D) : zC miX5_fitsSounds [zr 0, zi i] D P := by
  have h := hC.1.1
  have w := h.2.2.1
  have n4 := w.n4
  have n3 := w.n3
  have i61 : ((61 : Nat) : Int) = 61 := rfl
  have hk := (w.w1.2 i i0 i1).1
  have loop : ∀ (r : Nat) (t : Int) (v1 v2 v3 : AV), (s 0 54 - t).toNat = r → 0 ≤ t → t ≤ s 0 54 → (∀ m, 0 ≤ m → m < t → okS (s 0) i m) → zW miX5_fitsSounds P 2 [zr 0, zi i, zi t, v1, v2, v3] D := by
    intro r
    induction r with
    | zero =>
      intro n v1 v2 v3 hr n0 n1 hn
      refine sX5_fitsSounds_2 _ _ _ _ _ ?_
      simp only [tX5_fitsSounds_2, w_ic, w_lc, w_lds, w_ild, w_lld, w_ald, w_ist, w_lst, w_ast, w_iinc, w_iadd, w_isub, w_imul, w_idiv, w_irem, w_iand, w_ior, w_ixor, w_ishl, w_ishr, w_iushr, w_ineg, w_ladd, w_lsub, w_lmul, w_ldiv, w_lrem, w_lcmp, w_i2l, w_l2i, w_dup, w_pop, w_dup2, w_ieq, w_zeq, w_ine, w_zne, w_ilt, w_zlt, w_ige, w_zge, w_igt, w_zgt, w_ile, w_zle, w_cut, w_tsw, zsw, w_iret, w_zret, w_lret, w_vret, w_nret, w_getI, w_getJ, w_getR, w_putI, w_putZ, w_putJ, w_iald, w_zald, w_iast, w_zast, w_alen, w_sI, w_sJ, w_sV, w_vI, w_vJ, w_vV, w_tI, w_mmax, w_mmin, w_mabs, w_lmax, w_acopy, gL, sL, kl_i, kl_l, kl_r, kl_s, kl_m, qI_i, qJ_l, qA_r, qA_s, pI_i, pJ_l, pA_r, pS_s, pM_m, pV_v, c1_i, c1_r, c1_s, c1_m, cS_0, cS_i, cS_l, cS_r, cS_s, cS_m, pN, z_rc_r, zE1, zE2, zE3, true_and, and_true, Nat.zero_add, Nat.reduceAdd, Nat.reduceLeDiff, true_or, or_true, q0, qp4, qp5, qp8, qp9, qf0, qz0, qf1, qz1, qf2, qz2, qf3, qz3, qf6, qz6, qf7, qz7, qf10, qz10, qf11, qz11, qf12, qz12, qf13, qz13, qf14, qz14, k1o, k1m, k1f0, k1z0, k1f1, k1z1, k1f2, k1z2, k1f3, k1z3, k1f4, k1z4, k1f5, k1z5, k1f6, k1z6, k1f7, k1z7, k1r0, k1r1, k1r2, k1r3, k1r4, k1r5, k1r6, k1w, k109, k109a, k109b, k109c, k109d, k109e, k109f, k109g, kr110, kr112, kr114, kr116, kr118, kr120, kr122]
      refine c_Rows_size bk1.r3 ?_
      rw [h.2.1.s.1]
      exact ⟨fun _ => h1 fun m m0 m1 => hn m m0 (by omega), fun q => absurd (by omega) q⟩
    | succ r ih =>
      intro n v1 v2 v3 hr n0 n1 hn
      have go : okS (s 0) i n → ∀ v1 v2 v3, zR (n + 1) ∧ zW miX5_fitsSounds P 2 [zr 0, zi i, zi (n + 1), v1, v2, v3] D := fun q v1 v2 v3 => ⟨⟨by omega, by omega⟩, ih (n + 1) v1 v2 v3 (by omega) (by omega) (by omega) fun m m0 m1 => by
        by_cases e : m = n
        · rw [e]; exact q
        · exact hn m m0 (by omega)⟩
      have out : ¬ okS (s 0) i n → P 0 D := fun q => h0 fun w => q (w n n0 (by omega))
      have hw := w.w4.2 n n0 (by omega)
      have hm1 := hp (s 0 (56 + 3 * n)).toNat (by omega)
      have hm2 := hp ((s 0 (56 + 3 * n)).toNat + 1) (by omega)
      rw [show (((s 0 (56 + 3 * n)).toNat : Nat) : Int) = s 0 (56 + 3 * n) by omega] at hm1
      rw [show ((((s 0 (56 + 3 * n)).toNat + 1 : Nat)) : Int) = s 0 (56 + 3 * n) + 1 by omega] at hm2
      have hat := sAt_in w i0 i1 (s 0 (56 + 3 * n)).toNat
      have hat0 := hat.1
      have hat1 := hat.2
      unfold okS at go out
      refine sX5_fitsSounds_2 _ _ _ _ _ ?_
      simp only [tX5_fitsSounds_2, w_ic, w_lc, w_lds, w_ild, w_lld, w_ald, w_ist, w_lst, w_ast, w_iinc, w_iadd, w_isub, w_imul, w_idiv, w_irem, w_iand, w_ior, w_ixor, w_ishl, w_ishr, w_iushr, w_ineg, w_ladd, w_lsub, w_lmul, w_ldiv, w_lrem, w_lcmp, w_i2l, w_l2i, w_dup, w_pop, w_dup2, w_ieq, w_zeq, w_ine, w_zne, w_ilt, w_zlt, w_ige, w_zge, w_igt, w_zgt, w_ile, w_zle, w_cut, w_tsw, zsw, w_iret, w_zret, w_lret, w_vret, w_nret, w_getI, w_getJ, w_getR, w_putI, w_putZ, w_putJ, w_iald, w_zald, w_iast, w_zast, w_alen, w_sI, w_sJ, w_sV, w_vI, w_vJ, w_vV, w_tI, w_mmax, w_mmin, w_mabs, w_lmax, w_acopy, gL, sL, kl_i, kl_l, kl_r, kl_s, kl_m, qI_i, qJ_l, qA_r, qA_s, pI_i, pJ_l, pA_r, pS_s, pM_m, pV_v, c1_i, c1_r, c1_s, c1_m, cS_0, cS_i, cS_l, cS_r, cS_s, cS_m, pN, z_rc_r, zE1, zE2, zE3, true_and, and_true, Nat.zero_add, Nat.reduceAdd, Nat.reduceLeDiff, true_or, or_true, q0, qp4, qp5, qp8, qp9, qf0, qz0, qf1, qz1, qf2, qz2, qf3, qz3, qf6, qz6, qf7, qz7, qf10, qz10, qf11, qz11, qf12, qz12, qf13, qz13, qf14, qz14, k1o, k1m, k1f0, k1z0, k1f1, k1z1, k1f2, k1z2, k1f3, k1z3, k1f4, k1z4, k1f5, k1z5, k1f6, k1z6, k1f7, k1z7, k1r0, k1r1, k1r2, k1r3, k1r4, k1r5, k1r6, k1w, k109, k109a, k109b, k109c, k109d, k109e, k109f, k109g, kr110, kr112, kr114, kr116, kr118, kr120, kr122]
      refine c_Rows_size bk1.r3 ?_
      rw [h.2.1.s.1]
      refine ⟨fun q => absurd q (by omega), fun _ => ?_⟩
      refine c_sget bk1 h n0 (by omega) (by decide) (by decide) ?_
      rw [show 55 + 3 * n + 1 = 56 + 3 * n by omega]
      refine c_Row_get p114 (by omega) (by omega) ⟨⟨by omega, by omega⟩, ?_⟩
      refine c_Row_get p114 (by omega) (by omega) ?_
      rw [hm1, hm2]
      refine ⟨fun q => ?_, fun q => out fun w => w.1 (Decidable.not_not.mp q)⟩
      refine c_gget bk1 h i0 i1 (by decide) (by decide) ?_
      rw [show 16 + 6 * 0 + i = 16 + i by omega]
      refine c_floorOf hat0 ?_
      rw [h.2.1.m]
      refine ⟨⟨by omega, by omega⟩, ?_⟩
      refine c_loudness hk.1 hk.2 (by omega) (by omega) (by omega) ?_
      refine c_sget bk1 h n0 (by omega) (by decide) (by decide) ?_
      rw [show 55 + 3 * n + 2 = 57 + 3 * n by omega]
      refine ⟨fun q2 => out fun w => q2 w.2.1, fun q2 => ?_⟩
      have q3 := Decidable.not_not.mp q2
      refine c_sget bk1 h n0 (by omega) (by decide) (by decide) ?_
      rw [show 55 + 3 * n + 0 = 55 + 3 * n by omega]
      refine c_hears bk1 h hw.1.1 hw.1.2 (by omega) (by omega) hat (fun q4 => ⟨fun _ => go ⟨q, q3, by rw [← q3]; exact q4⟩ _ _ _, fun z => absurd (by decide) z⟩) (fun q4 => ⟨fun z => absurd rfl z, fun _ => out fun w => q4 (by rw [q3]; exact w.2.2)⟩)
  refine e_X5_fitsSounds ?_
  simp only [tX5_fitsSounds_0, w_ic, w_lc, w_lds, w_ild, w_lld, w_ald, w_ist, w_lst, w_ast, w_iinc, w_iadd, w_isub, w_imul, w_idiv, w_irem, w_iand, w_ior, w_ixor, w_ishl, w_ishr, w_iushr, w_ineg, w_ladd, w_lsub, w_lmul, w_ldiv, w_lrem, w_lcmp, w_i2l, w_l2i, w_dup, w_pop, w_dup2, w_ieq, w_zeq, w_ine, w_zne, w_ilt, w_zlt, w_ige, w_zge, w_igt, w_zgt, w_ile, w_zle, w_cut, w_tsw, zsw, w_iret, w_zret, w_lret, w_vret, w_nret, w_getI, w_getJ, w_getR, w_putI, w_putZ, w_putJ, w_iald, w_zald, w_iast, w_zast, w_alen, w_sI, w_sJ, w_sV, w_vI, w_vJ, w_vV, w_tI, w_mmax, w_mmin, w_mabs, w_lmax, w_acopy, gL, sL, kl_i, kl_l, kl_r, kl_s, kl_m, qI_i, qJ_l, qA_r, qA_s, pI_i, pJ_l, pA_r, pS_s, pM_m, pV_v, c1_i, c1_r, c1_s, c1_m, cS_0, cS_i, cS_l, cS_r, cS_s, cS_m, pN, z_rc_r, zE1, zE2, zE3, true_and, and_true, Nat.zero_add, Nat.reduceAdd, Nat.reduceLeDiff, true_or, or_true, q0, qp4, qp5, qp8, qp9, qf0, qz0, qf1, qz1, qf2, qz2, qf3, qz3, qf6, qz6, qf7, qz7, qf10, qz10, qf11, qz11, qf12, qz12, qf13, qz13, qf14, qz14, k1o, k1m, k1f0, k1z0, k1f1, k1z1, k1f2, k1z2, k1f3, k1z3, k1f4, k1z4, k1f5, k1z5, k1f6, k1z6, k1f7, k1z7, k1r0, k1r1, k1r2, k1r3, k1r4, k1r5, k1r6, k1w, k109, k109a, k109b, k109c, k109d, k109e, k109f, k109g, kr110, kr112, kr114, kr116, kr118, kr120, kr122]
  exact loop _ 0 _ _ _ rfl (by omega) n4.1 (fun m m0 m1 => by omega)
noncomputable def r_who (s : Mem) : Int × Mem := (zbits (s 0 1).toNat (fun i => cIf (sFS (s 0) i) 1 0), s)
theorem v_who {s : Mem} : cOK miX5_who [zr 0] s (r_who s) := by
  intro D P hC hP
  unfold r_who at hP
  have w := hC.1.1.2.2.1
  have c1 := w.n1
  refine e_X5_who ?_
  simp only [tX5_who_0, w_ic, w_lc, w_lds, w_ild, w_lld, w_ald, w_ist, w_lst, w_ast, w_iinc, w_iadd, w_isub, w_imul, w_idiv, w_irem, w_iand, w_ior, w_ixor, w_ishl, w_ishr, w_iushr, w_ineg, w_ladd, w_lsub, w_lmul, w_ldiv, w_lrem, w_lcmp, w_i2l, w_l2i, w_dup, w_pop, w_dup2, w_ieq, w_zeq, w_ine, w_zne, w_ilt, w_zlt, w_ige, w_zge, w_igt, w_zgt, w_ile, w_zle, w_cut, w_tsw, zsw, w_iret, w_zret, w_lret, w_vret, w_nret, w_getI, w_getJ, w_getR, w_putI, w_putZ, w_putJ, w_iald, w_zald, w_iast, w_zast, w_alen, w_sI, w_sJ, w_sV, w_vI, w_vJ, w_vV, w_tI, w_mmax, w_mmin, w_mabs, w_lmax, w_acopy, gL, sL, kl_i, kl_l, kl_r, kl_s, kl_m, qI_i, qJ_l, qA_r, qA_s, pI_i, pJ_l, pA_r, pS_s, pM_m, pV_v, c1_i, c1_r, c1_s, c1_m, cS_0, cS_i, cS_l, cS_r, cS_s, cS_m, pN, z_rc_r, zE1, zE2, zE3, true_and, and_true, Nat.zero_add, Nat.reduceAdd, Nat.reduceLeDiff, true_or, or_true, q0, qp4, qp5, qp8, qp9, qf0, qz0, qf1, qz1, qf2, qz2, qf3, qz3, qf6, qz6, qf7, qz7, qf10, qz10, qf11, qz11, qf12, qz12, qf13, qz13, qf14, qz14, k1o, k1m, k1f0, k1z0, k1f1, k1z1, k1f2, k1z2, k1f3, k1z3, k1f4, k1z4, k1f5, k1z5, k1f6, k1z6, k1f7, k1z7, k1r0, k1r1, k1r2, k1r3, k1r4, k1r5, k1r6, k1w, k109, k109a, k109b, k109c, k109d, k109e, k109f, k109g, kr110, kr112, kr114, kr116, kr118, kr120, kr122]
  have loop : ∀ (r : Nat) (i : Int) (D2 : Mem), (s 0 1 - i).toNat = r → 0 ≤ i → i ≤ s 0 1 → Fr 0 124 D D2 → CS D2 s → zW miX5_who P 4 [zr 0, zi (zbits i.toNat (fun i => cIf (sFS (s 0) i) 1 0)), zi i] D2 := by
    intro r
    induction r with
    | zero =>
      intro i D2 hr i0 i1 e1 e2
      refine sX5_who_4 _ _ _ _ _ ?_
      simp only [tX5_who_4, w_ic, w_lc, w_lds, w_ild, w_lld, w_ald, w_ist, w_lst, w_ast, w_iinc, w_iadd, w_isub, w_imul, w_idiv, w_irem, w_iand, w_ior, w_ixor, w_ishl, w_ishr, w_iushr, w_ineg, w_ladd, w_lsub, w_lmul, w_ldiv, w_lrem, w_lcmp, w_i2l, w_l2i, w_dup, w_pop, w_dup2, w_ieq, w_zeq, w_ine, w_zne, w_ilt, w_zlt, w_ige, w_zge, w_igt, w_zgt, w_ile, w_zle, w_cut, w_tsw, zsw, w_iret, w_zret, w_lret, w_vret, w_nret, w_getI, w_getJ, w_getR, w_putI, w_putZ, w_putJ, w_iald, w_zald, w_iast, w_zast, w_alen, w_sI, w_sJ, w_sV, w_vI, w_vJ, w_vV, w_tI, w_mmax, w_mmin, w_mabs, w_lmax, w_acopy, gL, sL, kl_i, kl_l, kl_r, kl_s, kl_m, qI_i, qJ_l, qA_r, qA_s, pI_i, pJ_l, pA_r, pS_s, pM_m, pV_v, c1_i, c1_r, c1_s, c1_m, cS_0, cS_i, cS_l, cS_r, cS_s, cS_m, pN, z_rc_r, zE1, zE2, zE3, true_and, and_true, Nat.zero_add, Nat.reduceAdd, Nat.reduceLeDiff, true_or, or_true, q0, qp4, qp5, qp8, qp9, qf0, qz0, qf1, qz1, qf2, qz2, qf3, qz3, qf6, qz6, qf7, qz7, qf10, qz10, qf11, qz11, qf12, qz12, qf13, qz13, qf14, qz14, k1o, k1m, k1f0, k1z0, k1f1, k1z1, k1f2, k1z2, k1f3, k1z3, k1f4, k1z4, k1f5, k1z5, k1f6, k1z6, k1f7, k1z7, k1r0, k1r1, k1r2, k1r3, k1r4, k1r5, k1r6, k1w, k109, k109a, k109b, k109c, k109d, k109e, k109f, k109g, kr110, kr112, kr114, kr116, kr118, kr120, kr122]
      refine c_gsize bk1 e2.1.1 ⟨fun _ => ?_, fun q => absurd (by omega) q⟩
      rw [show i = s 0 1 by omega]
      exact hP D2 e1 e2
    | succ r ih =>
      intro i D2 hr i0 i1 e1 e2
      have zb := zbits_b (f := fun i => cIf (sFS (s 0) i) 1 0) i.toNat
      refine sX5_who_4 _ _ _ _ _ ?_
      simp only [tX5_who_4, w_ic, w_lc, w_lds, w_ild, w_lld, w_ald, w_ist, w_lst, w_ast, w_iinc, w_iadd, w_isub, w_imul, w_idiv, w_irem, w_iand, w_ior, w_ixor, w_ishl, w_ishr, w_iushr, w_ineg, w_ladd, w_lsub, w_lmul, w_ldiv, w_lrem, w_lcmp, w_i2l, w_l2i, w_dup, w_pop, w_dup2, w_ieq, w_zeq, w_ine, w_zne, w_ilt, w_zlt, w_ige, w_zge, w_igt, w_zgt, w_ile, w_zle, w_cut, w_tsw, zsw, w_iret, w_zret, w_lret, w_vret, w_nret, w_getI, w_getJ, w_getR, w_putI, w_putZ, w_putJ, w_iald, w_zald, w_iast, w_zast, w_alen, w_sI, w_sJ, w_sV, w_vI, w_vJ, w_vV, w_tI, w_mmax, w_mmin, w_mabs, w_lmax, w_acopy, gL, sL, kl_i, kl_l, kl_r, kl_s, kl_m, qI_i, qJ_l, qA_r, qA_s, pI_i, pJ_l, pA_r, pS_s, pM_m, pV_v, c1_i, c1_r, c1_s, c1_m, cS_0, cS_i, cS_l, cS_r, cS_s, cS_m, pN, z_rc_r, zE1, zE2, zE3, true_and, and_true, Nat.zero_add, Nat.reduceAdd, Nat.reduceLeDiff, true_or, or_true, q0, qp4, qp5, qp8, qp9, qf0, qz0, qf1, qz1, qf2, qz2, qf3, qz3, qf6, qz6, qf7, qz7, qf10, qz10, qf11, qz11, qf12, qz12, qf13, qz13, qf14, qz14, k1o, k1m, k1f0, k1z0, k1f1, k1z1, k1f2, k1z2, k1f3, k1z3, k1f4, k1z4, k1f5, k1z5, k1f6, k1z6, k1f7, k1z7, k1r0, k1r1, k1r2, k1r3, k1r4, k1r5, k1r6, k1w, k109, k109a, k109b, k109c, k109d, k109e, k109f, k109g, kr110, kr112, kr114, kr116, kr118, kr120, kr122]
      refine c_gsize bk1 e2.1.1 ⟨fun q => absurd q (by omega), fun _ => ?_⟩
      refine c_paths e2 i0 (by omega) fun D3 d1 d2 d3 d4 => ?_
      have nx := ih (i + 1) D3 (by omega) (by omega) (by omega) (e1.trans d1) d2
      rw [zbits_s i0] at nx
      refine c_fitsSounds d2 i0 (by omega) d4 (fun q => ⟨fun w => absurd w (by decide), fun _ => ⟨⟨by omega, by omega⟩, ?_⟩⟩) (fun q => ⟨fun _ => ⟨⟨by omega, by omega⟩, ?_⟩, fun w => absurd rfl w⟩)
      · rw [cIf_t q, if_neg (by decide), ← bO_add i0 (by omega) zb.1 zb.2] at nx
        exact nx
      · rw [cIf_f q, if_pos rfl, Int.add_zero] at nx
        exact nx
  exact loop _ 0 D rfl (by omega) c1.1 Fr.rfl hC
