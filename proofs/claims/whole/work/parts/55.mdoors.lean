/-! ===== 55: the model: doors, depth first ===== -/
theorem zMn_le {f : Int → Int} : ∀ {n : Nat} {u : Int}, 0 ≤ u → u < n → f u ≠ -1 → zMn n f ≠ -1 ∧ zMn n f ≤ f u
  | 0, u, h0, h1, _ => by omega
  | n + 1, u, h0, h1, h2 => by
    have e : zMn (n + 1) f = (if f n = -1 then zMn n f else if zMn n f = -1 then f n else if f n < zMn n f then f n else zMn n f) := rfl
    rw [e]
    by_cases eu : u = n
    · rw [eu] at h2 ⊢
      rw [if_neg h2]
      split
      · exact ⟨h2, Int.le_refl _⟩
      · split
        · exact ⟨h2, Int.le_refl _⟩
        · omega
    · have ih := zMn_le (f := f) h0 (show u < n by omega) h2
      split
      · exact ih
      · rw [if_neg ih.1]
        split
        · omega
        · exact ih
def dM (p : Int → Int) : Nat → Int
  | 0 => 0
  | e + 1 => dM p e + 2 ^ (p e).toNat
def dG (d : Int → Int → Int) (p : Int → Int) : Nat → Int
  | 0 => 0
  | e + 1 => dG d p e + d e (p e)
theorem dM_s {p : Int → Int} {e : Nat} : dM p (e + 1) = dM p e + 2 ^ (p e).toNat := rfl
theorem dG_s {d : Int → Int → Int} {p : Int → Int} {e : Nat} : dG d p (e + 1) = dG d p e + d e (p e) := rfl
theorem dM_eq {p q : Int → Int} : ∀ c : Nat, (∀ e : Int, 0 ≤ e → e < c → p e = q e) → dM p c = dM q c
  | 0, _ => rfl
  | c + 1, h => by rw [dM_s, dM_s, dM_eq c (fun e e0 e1 => h e e0 (by omega)), h c (by omega) (by omega)]
theorem dG_eq {d : Int → Int → Int} {p q : Int → Int} : ∀ c : Nat, (∀ e : Int, 0 ≤ e → e < c → p e = q e) → dG d p c = dG d q c
  | 0, _ => rfl
  | c + 1, h => by rw [dG_s, dG_s, dG_eq c (fun e e0 e1 => h e e0 (by omega)), h c (by omega) (by omega)]
def dPV (n : Int) (d : Int → Int → Int) (p : Int → Int) (c : Nat) : Prop := ∀ e : Nat, e < c → (0 ≤ p e ∧ p e < n) ∧ zbt (dM p e) (p e) = 0 ∧ d e (p e) ≠ -1
theorem dM_b {n : Int} {d : Int → Int → Int} {p : Int → Int} {c : Nat} (n0 : 0 ≤ n) (n1 : n ≤ 6) (h : dPV n d p c) : ∀ e : Nat, e ≤ c → (0 ≤ dM p e ∧ dM p e < 2 ^ n.toNat) ∧ zpc (dM p e) = e
  | 0, _ => ⟨⟨Int.le_refl _, by have := (p2_6 n0 n1).1; show (0 : Int) < _; omega⟩, rfl⟩
  | e + 1, he => by
    obtain ⟨⟨i1, i2⟩, i3⟩ := dM_b n0 n1 h e (by omega)
    obtain ⟨⟨g0, g1⟩, g2, g3⟩ := h e (by omega)
    obtain ⟨-, e2, e3, e4⟩ := t_ad i1 i2 n0 n1 g0 g1 g2
    rw [dM_s]
    exact ⟨⟨by omega, e4⟩, by rw [e2, i3]; omega⟩
theorem dG_b {n : Int} {d : Int → Int → Int} {p : Int → Int} {c : Nat} (hd : ∀ i j, 0 ≤ i → i < n → 0 ≤ j → j < n → -1 ≤ d i j ∧ d i j < 20) (h : dPV n d p c) (hc : (c : Int) ≤ n) : ∀ e : Nat, e ≤ c → 0 ≤ dG d p e ∧ dG d p e ≤ 20 * e
  | 0, _ => ⟨Int.le_refl _, by show (0 : Int) ≤ _; omega⟩
  | e + 1, he => by
    have ih := dG_b hd h hc e (by omega)
    obtain ⟨⟨g0, g1⟩, g2, g3⟩ := h e (by omega)
    have := hd e (p e) (by omega) (by omega) g0 g1
    rw [dG_s]
    omega
/-- where each who is left goes, by the first homes -/
noncomputable def gC (n : Int) (d : Int → Int → Int) : Nat → Int → Int → Int → Int
  | 0, _, _, _ => 0
  | r + 1, c, t, e => if e = c then sFh n d c t else gC n d r (c + 1) (t + 2 ^ (sFh n d c t).toNat) e
theorem gC_tk {n : Int} {d : Int → Int → Int} {e : Nat} : ∀ (r c : Nat), c ≤ e → e < c + r → gC n d r c (sTk n d c) e = sFh n d e (sTk n d e)
  | 0, c, h0, h1 => by omega
  | r + 1, c, h0, h1 => by
    show (if (e : Int) = c then sFh n d c (sTk n d c) else gC n d r (c + 1) (sTk n d c + 2 ^ (sFh n d c (sTk n d c)).toNat) e) = _
    by_cases h : (e : Int) = c
    · rw [if_pos h, show c = e by omega]
    · rw [if_neg h]
      exact gC_tk r (c + 1) (by omega) (by omega)
noncomputable def dV (n : Int) (d : Int → Int → Int) (c t : Int) (j : Int) : Int := if zbt t j = 1 then -1 else sWy n d c j t
/-- all below depth c were tried; or those that begin with j below J -/
def subR (n : Int) (d : Int → Int → Int) (p : Int → Int) (c : Nat) (l0 : Int) (B0 : Int → Int) (l : Int) (B : Int → Int) : Prop :=
  (sLe n d (dM p c) = -1 ∨ l0 ≤ dG d p c + sLe n d (dM p c) → l = l0 ∧ ∀ e, 0 ≤ e → e < n → B e = B0 e) ∧
  (sLe n d (dM p c) ≠ -1 ∧ dG d p c + sLe n d (dM p c) < l0 → l = dG d p c + sLe n d (dM p c) ∧ (∀ e : Int, 0 ≤ e → e < c → B e = p e) ∧ ∀ e, (c : Int) ≤ e → e < n → B e = gC n d (n - c).toNat c (dM p c) e)
def parR (n : Int) (d : Int → Int → Int) (p : Int → Int) (c : Nat) (J l0 : Int) (B0 : Int → Int) (l : Int) (B : Int → Int) : Prop :=
  (zMn J.toNat (dV n d c (dM p c)) = -1 ∨ l0 ≤ dG d p c + zMn J.toNat (dV n d c (dM p c)) → l = l0 ∧ ∀ e, 0 ≤ e → e < n → B e = B0 e) ∧
  (zMn J.toNat (dV n d c (dM p c)) ≠ -1 ∧ dG d p c + zMn J.toNat (dV n d c (dM p c)) < l0 → l = dG d p c + zMn J.toNat (dV n d c (dM p c)) ∧ (∀ e : Int, 0 ≤ e → e < c → B e = p e) ∧ ((0 ≤ B c ∧ B c < J) ∧ dV n d c (dM p c) (B c) = zMn J.toNat (dV n d c (dM p c)) ∧ ∀ u, 0 ≤ u → u < B c → dV n d c (dM p c) u ≠ zMn J.toNat (dV n d c (dM p c))) ∧ ∀ e, (c : Int) < e → e < n → B e = gC n d (n - c - 1).toNat (c + 1) (dM p c + 2 ^ (B c).toNat) e)
theorem parR_0 {n : Int} {d : Int → Int → Int} {p : Int → Int} {c : Nat} {l0 : Int} {B0 : Int → Int} : parR n d p c 0 l0 B0 l0 B0 := ⟨fun _ => ⟨rfl, fun _ _ _ => rfl⟩, fun h => absurd rfl h.1⟩
theorem parR_skip {n : Int} {d : Int → Int → Int} {p : Int → Int} {c : Nat} {J l0 l : Int} {B0 B : Int → Int} (J0 : 0 ≤ J) (hv : dV n d c (dM p c) J = -1) (h : parR n d p c J l0 B0 l B) : parR n d p c (J + 1) l0 B0 l B := by
  have e := zMn_s (f := dV n d c (dM p c)) J0
  rw [if_pos hv] at e
  unfold parR at h ⊢
  rw [e]
  exact ⟨h.1, fun q => by
    obtain ⟨a1, a2, ⟨⟨a3, a4⟩, a5⟩, a6⟩ := h.2 q
    exact ⟨a1, a2, ⟨⟨a3, by omega⟩, a5⟩, a6⟩⟩
theorem parR_step {n : Int} {d : Int → Int → Int} {p : Int → Int} {c : Nat} {J l0 l l2 : Int} {B0 B B2 : Int → Int} (hc : (c : Int) < n) (J0 : 0 ≤ J) (J1 : J < n) (hb : zbt (dM p c) J = 0) (hd0 : 0 ≤ d c J) (hL0 : -1 ≤ sLe n d (dM p c + 2 ^ J.toNat)) (h : parR n d p c J l0 B0 l B) (hs : subR n d (zA p c J) (c + 1) l B l2 B2) : parR n d p c (J + 1) l0 B0 l2 B2 := by
  have e := zMn_s (f := dV n d c (dM p c)) J0
  have eM : dM (zA p c J) c = dM p c := dM_eq c fun e e0 e1 => zA_n (by omega)
  have eG : dG d (zA p c J) c = dG d p c := dG_eq c fun e e0 e1 => zA_n (by omega)
  have eM1 : dM (zA p c J) (c + 1) = dM p c + 2 ^ J.toNat := by rw [dM_s, eM, zA_s]
  have eG1 : dG d (zA p c J) (c + 1) = dG d p c + d c J := by rw [dG_s, eG, zA_s]
  have eV : dV n d c (dM p c) J = zJn (d c J) (sLe n d (dM p c + 2 ^ J.toNat)) := by
    unfold dV sWy
    rw [if_neg (by omega)]
  unfold subR at hs
  rw [eM1, eG1] at hs
  have hle := fun u u0 u1 hu => zMn_le (f := dV n d c (dM p c)) (n := J.toNat) (u := u) u0 (by omega) hu
  have hd : d c J ≠ -1 := by omega
  generalize hL : sLe n d (dM p c + 2 ^ J.toNat) = L at hs eV hL0
  by_cases hL1 : L = -1
  · have e9 : dV n d c (dM p c) J = -1 := by
      rw [eV]; unfold zJn; rw [if_pos (Or.inr hL1)]
    obtain ⟨s1, s2⟩ := hs.1 (Or.inl hL1)
    have h9 := parR_skip J0 e9 h
    unfold parR at h9 ⊢
    refine ⟨fun q => ?_, fun q => ?_⟩
    · have := h9.1 q
      exact ⟨by rw [s1]; exact this.1, fun e e0 e1 => by rw [s2 e e0 e1]; exact this.2 e e0 e1⟩
    · obtain ⟨a1, a2, a3, a4⟩ := h9.2 q
      have sc := s2 c (by omega) hc
      rw [sc]
      exact ⟨by rw [s1]; exact a1, fun e e0 e1 => by rw [s2 e e0 (by omega)]; exact a2 e e0 e1, a3, fun e e0 e1 => by rw [s2 e (by omega) e1]; exact a4 e e0 e1⟩
  · have e9 : dV n d c (dM p c) J = d c J + L := by
      rw [eV]; unfold zJn; rw [if_neg (fun w => w.elim hd hL1)]
    have hm1 : ¬ dV n d c (dM p c) J = -1 := by omega
    rw [if_neg hm1] at e
    unfold parR at h ⊢
    rw [e]
    generalize hm : zMn J.toNat (dV n d c (dM p c)) = m at h hle ⊢
    generalize hx : dV n d c (dM p c) J = x at e9 hm1 ⊢
    by_cases hi : dG d p c + x < l
    · obtain ⟨s1, s2, s3⟩ := hs.2 ⟨hL1, by omega⟩
      have em : (if m = -1 then x else if x < m then x else m) = x ∧ dG d p c + x < l0 ∧ (m = -1 ∨ x < m) := by
        by_cases g : m = -1
        · have := (h.1 (Or.inl g)).1
          rw [if_pos g]
          exact ⟨rfl, by omega, Or.inl g⟩
        · rw [if_neg g]
          by_cases g2 : l0 ≤ dG d p c + m
          · have := (h.1 (Or.inr g2)).1
            rw [if_pos (by omega)]
            exact ⟨rfl, by omega, Or.inr (by omega)⟩
          · have := (h.2 ⟨g, by omega⟩).1
            rw [if_pos (by omega)]
            exact ⟨rfl, by omega, Or.inr (by omega)⟩
      rw [em.1]
      have sc : B2 c = J := by rw [s2 c (by omega) (by omega), zA_s]
      refine ⟨fun q => by omega, fun _ => ⟨by omega, fun e e0 e1 => by rw [s2 e e0 (by omega), zA_n (by omega)], ?_, fun e e0 e1 => ?_⟩⟩
      · rw [sc]
        refine ⟨⟨J0, by omega⟩, hx, fun u u0 u1 w => ?_⟩
        have := hle u u0 (by omega) (by rw [w]; exact hm1)
        omega
      · rw [sc]
        have := s3 e (by omega) e1
        rw [this]
        rw [show (n - ((c + 1 : Nat) : Int)).toNat = (n - c - 1).toNat by omega]
        rfl
    · obtain ⟨s1, s2⟩ := hs.1 (Or.inr (by omega))
      have sc := s2 c (by omega) hc
      by_cases g : m = -1
      · have h1 := h.1 (Or.inl g)
        rw [if_pos g]
        refine ⟨fun _ => ⟨by omega, fun e e0 e1 => by rw [s2 e e0 e1]; exact h1.2 e e0 e1⟩, fun q => by omega⟩
      · rw [if_neg g]
        by_cases g2 : l0 ≤ dG d p c + m
        · have h1 := h.1 (Or.inr g2)
          refine ⟨fun _ => ⟨by omega, fun e e0 e1 => by rw [s2 e e0 e1]; exact h1.2 e e0 e1⟩, fun q => ?_⟩
          exfalso
          have h2 := q.2
          split at h2 <;> omega
        · obtain ⟨a1, a2, ⟨⟨a3, a4⟩, a5⟩, a6⟩ := h.2 ⟨g, by omega⟩
          rw [if_neg (by omega), sc]
          exact ⟨fun q => by omega, fun _ => ⟨by omega, fun e e0 e1 => by rw [s2 e e0 (by omega)]; exact a2 e e0 e1, ⟨⟨a3, by omega⟩, a5⟩, fun e e0 e1 => by rw [s2 e (by omega) e1]; exact a6 e e0 e1⟩⟩
theorem parR_end {n : Int} {d : Int → Int → Int} {p : Int → Int} {c : Nat} {l0 l : Int} {B0 B : Int → Int} (n0 : 0 ≤ n) (n1 : n ≤ 6) (hp : dPV n d p c) (hc : (c : Int) < n) (h : parR n d p c n l0 B0 l B) : subR n d p c l0 B0 l B := by
  obtain ⟨⟨b0, b1⟩, bz⟩ := dM_b n0 n1 hp c (Nat.le_refl _)
  have tf : dM p c + 1 < 2 ^ n.toNat := by
    obtain ⟨k, hk⟩ := Int.eq_ofNat_of_zero_le b0
    obtain ⟨m, rfl⟩ := Int.eq_ofNat_of_zero_le n0
    rw [hk] at b1 bz ⊢
    rw [Int.toNat_natCast] at b1 ⊢
    have e : ((2 : Int) ^ m) = ((2 ^ m : Nat) : Int) := by simp
    have h6 : 2 ^ m ≤ 2 ^ 6 := Nat.pow_le_pow_right (by decide) (by omega)
    have := t_full m (by omega) k (by omega) ⟨by omega, by omega⟩
    omega
  have eL : sLe n d (dM p c) = zMn n.toNat (dV n d c (dM p c)) := by
    rw [sLe_s n0 n1 b0 tf, bz]
    rfl
  unfold parR at h
  unfold subR
  rw [eL]
  refine ⟨h.1, fun q => ?_⟩
  obtain ⟨a1, a2, ⟨⟨a3, a4⟩, a5, a6⟩, a7⟩ := h.2 q
  have eF : sFh n d c (dM p c) = B c := by
    unfold sFh
    have hv : zbt (dM p c) (B c) = 0 ∧ sWy n d c (B c) (dM p c) = sLe n d (dM p c) := by
      rw [eL]
      unfold dV at a5
      rcases zbt_1 (x := dM p c) (k := B c) with z | z
      · rw [if_neg (by omega)] at a5
        exact ⟨z, a5⟩
      · rw [if_pos z] at a5
        exact absurd a5.symm q.1
    refine zFst_of (p := fun j => zbt (dM p c) j = 0 ∧ sWy n d c j (dM p c) = sLe n d (dM p c)) a3 hv (fun u u0 u1 w => a6 u u0 u1 ?_) (by omega)
    unfold dV
    rw [if_neg (by omega), w.2, eL]
    rfl
  refine ⟨a1, a2, fun e e0 e1 => ?_⟩
  rw [show (n - (c : Int)).toNat = (n - c - 1).toNat + 1 by omega]
  show B e = if e = c then sFh n d c (dM p c) else gC n d (n - c - 1).toNat (c + 1) (dM p c + 2 ^ (sFh n d c (dM p c)).toNat) e
  rw [eF]
  by_cases g : e = c
  · rw [if_pos g, g]
  · rw [if_neg g]
    exact a7 e (by omega) e1
theorem m_dfs {D0 s : Mem} {P : Int → Mem → Prop} (hw : WA 9999 (s 0)) : ∀ (r c : Nat) (p : Int → Int) (l0 : Int) (v4 v5 v6 : AV) (D1 : Mem), (c : Int) + r = s 0 1 → dPV (s 0 1) (sDs (s 0)) p c → yF D0 D1 → (∀ i j, 0 ≤ i → i < s 0 1 → 0 ≤ j → j < s 0 1 → D1 134 (6 * i + j) = zFar (sDs (s 0) i j)) → (∀ e : Int, 0 ≤ e → e < c → D1 135 e = p e) → D1 135 c = -1 → l0 ≤ 1000000 →
    (∀ (l : Int) (v4 v5 v6 : AV) (D2 : Mem), yF D0 D2 → (∀ i j, 0 ≤ i → i < s 0 1 → 0 ≤ j → j < s 0 1 → D2 134 (6 * i + j) = zFar (sDs (s 0) i j)) → (∀ e : Int, 0 ≤ e → e < c → D2 135 e = p e) → subR (s 0 1) (sDs (s 0)) p c l0 (D1 136) l (D2 136) → l ≤ 1000000 → zW miX6_bestDoors P 84 [zr 124, zi (s 0 1), zi l, zi ((c : Int) - 1), v4, v5, v6] D2) →
    zW miX6_bestDoors P 84 [zr 124, zi (s 0 1), zi l0, zi c, v4, v5, v6] D1 := by
  have n1 := hw.n1
  have hdb : ∀ i j, 0 ≤ i → i < s 0 1 → 0 ≤ j → j < s 0 1 → -1 ≤ sDs (s 0) i j ∧ sDs (s 0) i j < 20 := fun i j a b c d => sDs_b hw.w1 a b c d
  -- the sum and the set so far
  have l97 : ∀ (c : Nat) (p : Int → Int) (l : Int) (D1 : Mem), (c : Int) ≤ s 0 1 → dPV (s 0 1) (sDs (s 0)) p c → (∀ i j, 0 ≤ i → i < s 0 1 → 0 ≤ j → j < s 0 1 → D1 134 (6 * i + j) = zFar (sDs (s 0) i j)) → (∀ e : Int, 0 ≤ e → e < c → D1 135 e = p e) → zW miX6_bestDoors P 97 [zr 124, zi (s 0 1), zi l, zi c, zi (dM p c), zi (dG (sDs (s 0)) p c), zi c] D1 → ∀ (m e : Nat), c - e = m → e ≤ c → zW miX6_bestDoors P 97 [zr 124, zi (s 0 1), zi l, zi c, zi (dM p e), zi (dG (sDs (s 0)) p e), zi e] D1 := by
    intro c p l D1 hc hp hh hdoor hK m
    induction m with
    | zero =>
      intro e he1 he2
      have : e = c := by omega
      rw [this]
      exact hK
    | succ m ih =>
      intro e he1 he2
      obtain ⟨⟨g0, g1⟩, g2, g3⟩ := hp e (by omega)
      obtain ⟨⟨b0, b1⟩, bz⟩ := dM_b n1.1 n1.2 hp e (by omega)
      obtain ⟨t1, -, -, -⟩ := t_ad b0 b1 n1.1 n1.2 g0 g1 g2
      have gb := dG_b hdb hp hc e (by omega)
      have db := hdb e (p e) (by omega) (by omega) g0 g1
      have ez : zFar (sDs (s 0) e (p e)) = sDs (s 0) e (p e) := by unfold zFar; rw [if_neg g3]
      have nx := ih (e + 1) (by omega) (by omega)
      rw [dM_s, dG_s] at nx
      refine sX6_bestDoors_97 _ _ _ _ _ ?_
      simp only [tX6_bestDoors_97, w_ic, w_lc, w_lds, w_ild, w_lld, w_ald, w_ist, w_lst, w_ast, w_iinc, w_iadd, w_isub, w_imul, w_idiv, w_irem, w_iand, w_ior, w_ixor, w_ishl, w_ishr, w_iushr, w_ineg, w_ladd, w_lsub, w_lmul, w_ldiv, w_lrem, w_lcmp, w_i2l, w_l2i, w_dup, w_pop, w_dup2, w_ieq, w_zeq, w_ine, w_zne, w_ilt, w_zlt, w_ige, w_zge, w_igt, w_zgt, w_ile, w_zle, w_cut, w_tsw, zsw, w_iret, w_zret, w_lret, w_vret, w_nret, w_getI, w_getJ, w_getR, w_putI, w_putZ, w_putJ, w_iald, w_zald, w_iast, w_zast, w_alen, w_sI, w_sJ, w_sV, w_vI, w_vJ, w_vV, w_tI, w_mmax, w_mmin, w_mabs, w_lmax, w_acopy, gL, sL, kl_i, kl_l, kl_r, kl_s, kl_m, qI_i, qJ_l, qA_r, qA_s, pI_i, pJ_l, pA_r, pS_s, pM_m, pV_v, c1_i, c1_r, c1_s, c1_m, cS_0, cS_i, cS_l, cS_r, cS_s, cS_m, pN, z_rc_r, zE1, zE2, zE3, true_and, and_true, Nat.zero_add, Nat.reduceAdd, Nat.reduceLeDiff, true_or, or_true, Int.reduceLE, Int.reduceLT, zcmp_l, zcmp_g, zcmp_e, zcmp_le, mo, mf0, mz0, mf1, mz1, mf2, mz2, mf6, mz6, mf10, mz10, mf11, mz11, mf12, mz12, mf13, mz13, mf14, mz14, mf16, mz16, mf17, mz17, mf18, mz18, mf19, mz19, mi3, mi7, mi8, mi9, mi15, mi4, mi5, mi20, ma125, mn125, ma126, mn126, ma127, mn127, ma128, mn128, ma129, mn129, ma130, mn130, ma131, mn131, ma132, mn132, ma133, mn133, ma134, mn134, ma135, mn135, ma136, mn136, ma137, mn137]
      rw [hdoor e (by omega) (by omega), hh e (p e) (by omega) (by omega) g0 g1, ez, t1]
      refine ⟨fun w => absurd w (by omega), fun _ => ?_⟩
      repeat' (with_reducible apply And.intro)
      all_goals first | omega | exact ⟨by omega, by omega⟩ | skip
      exact nx
  intro r
  induction r with
  | zero =>
    intro c p l0 v4 v5 v6 D1 hcr hp hf hh hdoor hdc hl0 hK
    obtain ⟨⟨b0, b1⟩, bz⟩ := dM_b n1.1 n1.2 hp c (Nat.le_refl _)
    have gb := dG_b hdb hp (by omega) c (Nat.le_refl _)
    have eL : sLe (s 0 1) (sDs (s 0)) (dM p c) = 0 := by
      unfold sLe
      rw [bz, show (s 0 1 - (c : Int)).toNat = 0 by omega]
      rfl
    have hK97 : zW miX6_bestDoors P 97 [zr 124, zi (s 0 1), zi l0, zi c, zi (dM p c), zi (dG (sDs (s 0)) p c), zi c] D1 := by
      have copy : ∀ (m : Nat) (e : Int) (D2 : Mem), (s 0 1 - e).toNat = m → 0 ≤ e → e ≤ s 0 1 → dG (sDs (s 0)) p c < l0 → yF D0 D2 → (∀ o, o ≠ 136 → D2 o = D1 o) → (∀ i, 0 ≤ i → i < e → D2 136 i = p i) → zW miX6_bestDoors P 163 [zr 124, zi (s 0 1), zi (dG (sDs (s 0)) p c), zi c, zi (dM p c), zi (dG (sDs (s 0)) p c), zi e] D2 := by
        intro m
        induction m with
        | zero =>
          intro e D2 hm e0 e1 hlt hf2 ho hb
          have nx := hK (dG (sDs (s 0)) p c) (zi (dM p c)) (zi (dG (sDs (s 0)) p c)) (zi e) D2 hf2 (by rw [ho 134 (by decide)]; exact hh) (by rw [ho 135 (by decide)]; exact hdoor) (by
            unfold subR
            rw [eL, Int.add_zero]
            exact ⟨fun q => by omega, fun _ => ⟨rfl, fun i i0 i1 => hb i i0 (by omega), fun i i0 i1 => by omega⟩⟩) (by omega)
          refine sX6_bestDoors_163 _ _ _ _ _ ?_
          simp only [tX6_bestDoors_163, w_ic, w_lc, w_lds, w_ild, w_lld, w_ald, w_ist, w_lst, w_ast, w_iinc, w_iadd, w_isub, w_imul, w_idiv, w_irem, w_iand, w_ior, w_ixor, w_ishl, w_ishr, w_iushr, w_ineg, w_ladd, w_lsub, w_lmul, w_ldiv, w_lrem, w_lcmp, w_i2l, w_l2i, w_dup, w_pop, w_dup2, w_ieq, w_zeq, w_ine, w_zne, w_ilt, w_zlt, w_ige, w_zge, w_igt, w_zgt, w_ile, w_zle, w_cut, w_tsw, zsw, w_iret, w_zret, w_lret, w_vret, w_nret, w_getI, w_getJ, w_getR, w_putI, w_putZ, w_putJ, w_iald, w_zald, w_iast, w_zast, w_alen, w_sI, w_sJ, w_sV, w_vI, w_vJ, w_vV, w_tI, w_mmax, w_mmin, w_mabs, w_lmax, w_acopy, gL, sL, kl_i, kl_l, kl_r, kl_s, kl_m, qI_i, qJ_l, qA_r, qA_s, pI_i, pJ_l, pA_r, pS_s, pM_m, pV_v, c1_i, c1_r, c1_s, c1_m, cS_0, cS_i, cS_l, cS_r, cS_s, cS_m, pN, z_rc_r, zE1, zE2, zE3, true_and, and_true, Nat.zero_add, Nat.reduceAdd, Nat.reduceLeDiff, true_or, or_true, Int.reduceLE, Int.reduceLT, zcmp_l, zcmp_g, zcmp_e, zcmp_le, mo, mf0, mz0, mf1, mz1, mf2, mz2, mf6, mz6, mf10, mz10, mf11, mz11, mf12, mz12, mf13, mz13, mf14, mz14, mf16, mz16, mf17, mz17, mf18, mz18, mf19, mz19, mi3, mi7, mi8, mi9, mi15, mi4, mi5, mi20, ma125, mn125, ma126, mn126, ma127, mn127, ma128, mn128, ma129, mn129, ma130, mn130, ma131, mn131, ma132, mn132, ma133, mn133, ma134, mn134, ma135, mn135, ma136, mn136, ma137, mn137]
          exact ⟨fun _ => ⟨⟨by omega, by omega⟩, nx⟩, fun w => absurd (by omega) w⟩
        | succ m ih =>
          intro e D2 hm e0 e1 hlt hf2 ho hb
          refine sX6_bestDoors_163 _ _ _ _ _ ?_
          simp only [tX6_bestDoors_163, w_ic, w_lc, w_lds, w_ild, w_lld, w_ald, w_ist, w_lst, w_ast, w_iinc, w_iadd, w_isub, w_imul, w_idiv, w_irem, w_iand, w_ior, w_ixor, w_ishl, w_ishr, w_iushr, w_ineg, w_ladd, w_lsub, w_lmul, w_ldiv, w_lrem, w_lcmp, w_i2l, w_l2i, w_dup, w_pop, w_dup2, w_ieq, w_zeq, w_ine, w_zne, w_ilt, w_zlt, w_ige, w_zge, w_igt, w_zgt, w_ile, w_zle, w_cut, w_tsw, zsw, w_iret, w_zret, w_lret, w_vret, w_nret, w_getI, w_getJ, w_getR, w_putI, w_putZ, w_putJ, w_iald, w_zald, w_iast, w_zast, w_alen, w_sI, w_sJ, w_sV, w_vI, w_vJ, w_vV, w_tI, w_mmax, w_mmin, w_mabs, w_lmax, w_acopy, gL, sL, kl_i, kl_l, kl_r, kl_s, kl_m, qI_i, qJ_l, qA_r, qA_s, pI_i, pJ_l, pA_r, pS_s, pM_m, pV_v, c1_i, c1_r, c1_s, c1_m, cS_0, cS_i, cS_l, cS_r, cS_s, cS_m, pN, z_rc_r, zE1, zE2, zE3, true_and, and_true, Nat.zero_add, Nat.reduceAdd, Nat.reduceLeDiff, true_or, or_true, Int.reduceLE, Int.reduceLT, zcmp_l, zcmp_g, zcmp_e, zcmp_le, mo, mf0, mz0, mf1, mz1, mf2, mz2, mf6, mz6, mf10, mz10, mf11, mz11, mf12, mz12, mf13, mz13, mf14, mz14, mf16, mz16, mf17, mz17, mf18, mz18, mf19, mz19, mi3, mi7, mi8, mi9, mi15, mi4, mi5, mi20, ma125, mn125, ma126, mn126, ma127, mn127, ma128, mn128, ma129, mn129, ma130, mn130, ma131, mn131, ma132, mn132, ma133, mn133, ma134, mn134, ma135, mn135, ma136, mn136, ma137, mn137]
          rw [ho 135 (by decide), hdoor e e0 (by omega)]
          refine ⟨fun w => absurd w (by omega), fun _ => ?_⟩
          repeat' (with_reducible apply And.intro)
          all_goals first | omega | exact ⟨by omega, by omega⟩ | skip
          refine ih (e + 1) _ (by omega) (by omega) (by omega) hlt (hf2.trans (yF.up (by decide))) (fun o p => by rw [zU_ne p]; exact ho o p) fun i i0 i1 => ?_
          by_cases g : i = e
          · rw [g, zU_s]
          · rw [zU_k g]; exact hb i i0 (by omega)
      refine sX6_bestDoors_97 _ _ _ _ _ ?_
      simp only [tX6_bestDoors_97, w_ic, w_lc, w_lds, w_ild, w_lld, w_ald, w_ist, w_lst, w_ast, w_iinc, w_iadd, w_isub, w_imul, w_idiv, w_irem, w_iand, w_ior, w_ixor, w_ishl, w_ishr, w_iushr, w_ineg, w_ladd, w_lsub, w_lmul, w_ldiv, w_lrem, w_lcmp, w_i2l, w_l2i, w_dup, w_pop, w_dup2, w_ieq, w_zeq, w_ine, w_zne, w_ilt, w_zlt, w_ige, w_zge, w_igt, w_zgt, w_ile, w_zle, w_cut, w_tsw, zsw, w_iret, w_zret, w_lret, w_vret, w_nret, w_getI, w_getJ, w_getR, w_putI, w_putZ, w_putJ, w_iald, w_zald, w_iast, w_zast, w_alen, w_sI, w_sJ, w_sV, w_vI, w_vJ, w_vV, w_tI, w_mmax, w_mmin, w_mabs, w_lmax, w_acopy, gL, sL, kl_i, kl_l, kl_r, kl_s, kl_m, qI_i, qJ_l, qA_r, qA_s, pI_i, pJ_l, pA_r, pS_s, pM_m, pV_v, c1_i, c1_r, c1_s, c1_m, cS_0, cS_i, cS_l, cS_r, cS_s, cS_m, pN, z_rc_r, zE1, zE2, zE3, true_and, and_true, Nat.zero_add, Nat.reduceAdd, Nat.reduceLeDiff, true_or, or_true, Int.reduceLE, Int.reduceLT, zcmp_l, zcmp_g, zcmp_e, zcmp_le, mo, mf0, mz0, mf1, mz1, mf2, mz2, mf6, mz6, mf10, mz10, mf11, mz11, mf12, mz12, mf13, mz13, mf14, mz14, mf16, mz16, mf17, mz17, mf18, mz18, mf19, mz19, mi3, mi7, mi8, mi9, mi15, mi4, mi5, mi20, ma125, mn125, ma126, mn126, ma127, mn127, ma128, mn128, ma129, mn129, ma130, mn130, ma131, mn131, ma132, mn132, ma133, mn133, ma134, mn134, ma135, mn135, ma136, mn136, ma137, mn137]
      refine ⟨fun _ => ⟨fun w => absurd (by omega) w, fun _ => ⟨fun q => ?_, fun q => ?_⟩⟩, fun w => absurd (by omega) w⟩
      · have nx := hK l0 (zi (dM p c)) (zi (dG (sDs (s 0)) p c)) (zi c) D1 hf hh hdoor (by
          unfold subR
          rw [eL, Int.add_zero]
          exact ⟨fun _ => ⟨rfl, fun _ _ _ => rfl⟩, fun q => by omega⟩) hl0
        exact ⟨⟨by omega, by omega⟩, nx⟩
      · exact copy _ 0 D1 rfl (by omega) n1.1 (by omega) hf (fun _ _ => rfl) (fun i i0 i1 => by omega)
    refine sX6_bestDoors_84 _ _ _ _ _ ?_
    simp only [tX6_bestDoors_84, w_ic, w_lc, w_lds, w_ild, w_lld, w_ald, w_ist, w_lst, w_ast, w_iinc, w_iadd, w_isub, w_imul, w_idiv, w_irem, w_iand, w_ior, w_ixor, w_ishl, w_ishr, w_iushr, w_ineg, w_ladd, w_lsub, w_lmul, w_ldiv, w_lrem, w_lcmp, w_i2l, w_l2i, w_dup, w_pop, w_dup2, w_ieq, w_zeq, w_ine, w_zne, w_ilt, w_zlt, w_ige, w_zge, w_igt, w_zgt, w_ile, w_zle, w_cut, w_tsw, zsw, w_iret, w_zret, w_lret, w_vret, w_nret, w_getI, w_getJ, w_getR, w_putI, w_putZ, w_putJ, w_iald, w_zald, w_iast, w_zast, w_alen, w_sI, w_sJ, w_sV, w_vI, w_vJ, w_vV, w_tI, w_mmax, w_mmin, w_mabs, w_lmax, w_acopy, gL, sL, kl_i, kl_l, kl_r, kl_s, kl_m, qI_i, qJ_l, qA_r, qA_s, pI_i, pJ_l, pA_r, pS_s, pM_m, pV_v, c1_i, c1_r, c1_s, c1_m, cS_0, cS_i, cS_l, cS_r, cS_s, cS_m, pN, z_rc_r, zE1, zE2, zE3, true_and, and_true, Nat.zero_add, Nat.reduceAdd, Nat.reduceLeDiff, true_or, or_true, Int.reduceLE, Int.reduceLT, zcmp_l, zcmp_g, zcmp_e, zcmp_le, mo, mf0, mz0, mf1, mz1, mf2, mz2, mf6, mz6, mf10, mz10, mf11, mz11, mf12, mz12, mf13, mz13, mf14, mz14, mf16, mz16, mf17, mz17, mf18, mz18, mf19, mz19, mi3, mi7, mi8, mi9, mi15, mi4, mi5, mi20, ma125, mn125, ma126, mn126, ma127, mn127, ma128, mn128, ma129, mn129, ma130, mn130, ma131, mn131, ma132, mn132, ma133, mn133, ma134, mn134, ma135, mn135, ma136, mn136, ma137, mn137]
    refine ⟨fun w => absurd w (by omega), fun _ => ?_⟩
    exact l97 c p l0 D1 (by omega) hp hh hdoor hK97 c 0 (by omega) (by omega)
  | succ r ih =>
    intro c p l0 v4 v5 v6 D1 hcr hp hf hh hdoor hdc hl0 hK
    obtain ⟨⟨b0, b1⟩, bz⟩ := dM_b n1.1 n1.2 hp c (Nat.le_refl _)
    have p26 := p2_6 n1.1 n1.2
    -- all that begin with j from J on
    have inner : ∀ (m : Nat) (J l : Int) (v4 v5 v6 : AV) (D2 : Mem), (s 0 1 - J).toNat = m → 0 ≤ J → J ≤ s 0 1 → yF D0 D2 → (∀ i j, 0 ≤ i → i < s 0 1 → 0 ≤ j → j < s 0 1 → D2 134 (6 * i + j) = zFar (sDs (s 0) i j)) → (∀ e : Int, 0 ≤ e → e < c → D2 135 e = p e) → D2 135 c = J - 1 → parR (s 0 1) (sDs (s 0)) p c J l0 (D1 136) l (D2 136) → l ≤ 1000000 → zW miX6_bestDoors P 84 [zr 124, zi (s 0 1), zi l, zi c, v4, v5, v6] D2 := by
      intro m
      induction m using Nat.strongRecOn with
      | _ m ihm =>
      intro J l v4 v5 v6 D2 hm J0 J1 hf2 hh2 hd2 hdc2 hpar hl
      have l205 : ∀ (mm : Nat) (j : Int), (s 0 1 - j).toNat = mm → J ≤ j → j ≤ s 0 1 → parR (s 0 1) (sDs (s 0)) p c j l0 (D1 136) l (D2 136) → zW miX6_bestDoors P 205 [zr 124, zi (s 0 1), zi l, zi c, zi (dM p c), zi (dG (sDs (s 0)) p c), zi j] D2 := by
        intro mm
        induction mm with
        | zero =>
          intro j hj j0 j1 hpj
          have ej : j = s 0 1 := by omega
          have nx := hK l (zi (dM p c)) (zi (dG (sDs (s 0)) p c)) (zi j) (zU D2 135 c j) (hf2.trans (yF.up (by decide))) (by rw [zU_ne (by decide)]; exact hh2) (fun e e0 e1 => by rw [zU_k (by omega)]; exact hd2 e e0 e1) (by
            rw [zU_ne (by decide)]
            rw [ej] at hpj
            exact parR_end n1.1 n1.2 hp (by omega) hpj) hl
          refine sX6_bestDoors_205 _ _ _ _ _ ?_
          simp only [tX6_bestDoors_205, w_ic, w_lc, w_lds, w_ild, w_lld, w_ald, w_ist, w_lst, w_ast, w_iinc, w_iadd, w_isub, w_imul, w_idiv, w_irem, w_iand, w_ior, w_ixor, w_ishl, w_ishr, w_iushr, w_ineg, w_ladd, w_lsub, w_lmul, w_ldiv, w_lrem, w_lcmp, w_i2l, w_l2i, w_dup, w_pop, w_dup2, w_ieq, w_zeq, w_ine, w_zne, w_ilt, w_zlt, w_ige, w_zge, w_igt, w_zgt, w_ile, w_zle, w_cut, w_tsw, zsw, w_iret, w_zret, w_lret, w_vret, w_nret, w_getI, w_getJ, w_getR, w_putI, w_putZ, w_putJ, w_iald, w_zald, w_iast, w_zast, w_alen, w_sI, w_sJ, w_sV, w_vI, w_vJ, w_vV, w_tI, w_mmax, w_mmin, w_mabs, w_lmax, w_acopy, gL, sL, kl_i, kl_l, kl_r, kl_s, kl_m, qI_i, qJ_l, qA_r, qA_s, pI_i, pJ_l, pA_r, pS_s, pM_m, pV_v, c1_i, c1_r, c1_s, c1_m, cS_0, cS_i, cS_l, cS_r, cS_s, cS_m, pN, z_rc_r, zE1, zE2, zE3, true_and, and_true, Nat.zero_add, Nat.reduceAdd, Nat.reduceLeDiff, true_or, or_true, Int.reduceLE, Int.reduceLT, zcmp_l, zcmp_g, zcmp_e, zcmp_le, mo, mf0, mz0, mf1, mz1, mf2, mz2, mf6, mz6, mf10, mz10, mf11, mz11, mf12, mz12, mf13, mz13, mf14, mz14, mf16, mz16, mf17, mz17, mf18, mz18, mf19, mz19, mi3, mi7, mi8, mi9, mi15, mi4, mi5, mi20, ma125, mn125, ma126, mn126, ma127, mn127, ma128, mn128, ma129, mn129, ma130, mn130, ma131, mn131, ma132, mn132, ma133, mn133, ma134, mn134, ma135, mn135, ma136, mn136, ma137, mn137]
          refine ⟨fun _ => ?_, fun w => absurd (by omega) w⟩
          repeat' (with_reducible apply And.intro)
          all_goals first | omega | exact ⟨by omega, by omega⟩ | skip
          intro _
          exact ⟨⟨by omega, by omega⟩, nx⟩
        | succ mm ihmm =>
          intro j hj j0 j1 hpj
          have dj := hdb c j (by omega) (by omega) (by omega) (by omega)
          have skip : dV (s 0 1) (sDs (s 0)) c (dM p c) j = -1 → zR (j + 1) ∧ zW miX6_bestDoors P 205 [zr 124, zi (s 0 1), zi l, zi c, zi (dM p c), zi (dG (sDs (s 0)) p c), zi (j + 1)] D2 := fun hv => ⟨⟨by omega, by omega⟩, ihmm (j + 1) (by omega) (by omega) (by omega) (parR_skip (by omega) hv hpj)⟩
          refine sX6_bestDoors_205 _ _ _ _ _ ?_
          simp only [tX6_bestDoors_205, w_ic, w_lc, w_lds, w_ild, w_lld, w_ald, w_ist, w_lst, w_ast, w_iinc, w_iadd, w_isub, w_imul, w_idiv, w_irem, w_iand, w_ior, w_ixor, w_ishl, w_ishr, w_iushr, w_ineg, w_ladd, w_lsub, w_lmul, w_ldiv, w_lrem, w_lcmp, w_i2l, w_l2i, w_dup, w_pop, w_dup2, w_ieq, w_zeq, w_ine, w_zne, w_ilt, w_zlt, w_ige, w_zge, w_igt, w_zgt, w_ile, w_zle, w_cut, w_tsw, zsw, w_iret, w_zret, w_lret, w_vret, w_nret, w_getI, w_getJ, w_getR, w_putI, w_putZ, w_putJ, w_iald, w_zald, w_iast, w_zast, w_alen, w_sI, w_sJ, w_sV, w_vI, w_vJ, w_vV, w_tI, w_mmax, w_mmin, w_mabs, w_lmax, w_acopy, gL, sL, kl_i, kl_l, kl_r, kl_s, kl_m, qI_i, qJ_l, qA_r, qA_s, pI_i, pJ_l, pA_r, pS_s, pM_m, pV_v, c1_i, c1_r, c1_s, c1_m, cS_0, cS_i, cS_l, cS_r, cS_s, cS_m, pN, z_rc_r, zE1, zE2, zE3, true_and, and_true, Nat.zero_add, Nat.reduceAdd, Nat.reduceLeDiff, true_or, or_true, Int.reduceLE, Int.reduceLT, zcmp_l, zcmp_g, zcmp_e, zcmp_le, mo, mf0, mz0, mf1, mz1, mf2, mz2, mf6, mz6, mf10, mz10, mf11, mz11, mf12, mz12, mf13, mz13, mf14, mz14, mf16, mz16, mf17, mz17, mf18, mz18, mf19, mz19, mi3, mi7, mi8, mi9, mi15, mi4, mi5, mi20, ma125, mn125, ma126, mn126, ma127, mn127, ma128, mn128, ma129, mn129, ma130, mn130, ma131, mn131, ma132, mn132, ma133, mn133, ma134, mn134, ma135, mn135, ma136, mn136, ma137, mn137]
          refine ⟨fun w => absurd w (by omega), fun _ => ?_⟩
          refine m_has b0 (by omega) (by omega) (by omega) (fun hb => ⟨fun _ => skip (by unfold dV; rw [if_pos hb]), fun w => absurd (by decide) w⟩) (fun hb => ⟨fun w => absurd rfl w, fun _ => ?_⟩)
          rw [hh2 c j (by omega) (by omega) (by omega) (by omega)]
          repeat' (with_reducible apply And.intro)
          all_goals first | omega | exact ⟨by omega, by omega⟩ | skip
          · intro g
            have hdn : sDs (s 0) c j ≠ -1 := fun w => by
              unfold zFar at g
              rw [if_pos w] at g
              exact g rfl
            have hp' : dPV (s 0 1) (sDs (s 0)) (zA p c j) (c + 1) := by
              intro e he
              by_cases ec : e = c
              · rw [ec, zA_s, dM_eq c (q := p) (fun e e0 e1 => zA_n (by omega))]
                exact ⟨⟨by omega, by omega⟩, hb, hdn⟩
              · rw [zA_n (by omega), dM_eq e (q := p) (fun e e0 e1 => zA_n (by omega))]
                exact hp e (by omega)
            have ta := t_ad b0 b1 n1.1 n1.2 (show 0 ≤ j by omega) (by omega) hb
            have hL0 : -1 ≤ sLe (s 0 1) (sDs (s 0)) (dM p c + 2 ^ j.toNat) := by
              have hz := t_pcb (t := dM p c + 2 ^ j.toNat) (by omega) ta.2.2.2 n1.1 n1.2
              have := sL_b (d := sDs (s 0)) n1.2 hdb (s 0 1 - zpc (dM p c + 2 ^ j.toNat)).toNat (dM p c + 2 ^ j.toNat) (by omega)
              exact this.1
            have nx := ih (c + 1) (zA p c j) l (zi (dM p c)) (zi (dG (sDs (s 0)) p c)) (zi j) (zU (zU D2 135 c j) 135 (c + 1) (-1)) (by omega) hp' (hf2.trans ((yF.up (by decide)).trans (yF.up (by decide)))) (by rw [zU_ne (by decide), zU_ne (by decide)]; exact hh2) (fun e e0 e1 => by
              rw [zU_k (by omega)]
              by_cases ec : e = c
              · rw [ec, zU_s, zA_s]
              · rw [zU_k ec, zA_n ec]; exact hd2 e e0 (by omega)) zU_s hl (fun l2 v4 v5 v6 D3 f3 h3 d3 s3 k3 => by
                rw [show (((c + 1 : Nat) : Int) - 1) = c by omega]
                rw [zU_ne (o' := 136) (by decide), zU_ne (o' := 136) (by decide)] at s3
                have d3c := d3 c (by omega) (by omega)
                rw [zA_s] at d3c
                exact ihm (s 0 1 - (j + 1)).toNat (by omega) (j + 1) l2 v4 v5 v6 D3 rfl (by omega) (by omega) f3 h3 (fun e e0 e1 => by rw [d3 e e0 (by omega), zA_n (by omega)]) (by rw [d3c]; omega) (parR_step (by omega) (by omega) (by omega) hb (by omega) hL0 hpj s3) k3)
            repeat' (with_reducible apply And.intro)
            all_goals first | omega | exact ⟨by omega, by omega⟩ | skip
            · intro _
              repeat' (with_reducible apply And.intro)
              all_goals first | omega | exact ⟨by omega, by omega⟩ | skip
              exact nx
          · intro g
            have hdn : sDs (s 0) c j = -1 := by
              have g2 := Decidable.not_not.mp g
              unfold zFar at g2
              split at g2
              · assumption
              · omega
            refine skip ?_
            unfold dV sWy zJn
            rw [if_neg (by omega), if_pos (Or.inl hdn)]
      have gb := dG_b hdb hp (by omega) c (Nat.le_refl _)
      have hK97 : zW miX6_bestDoors P 97 [zr 124, zi (s 0 1), zi l, zi c, zi (dM p c), zi (dG (sDs (s 0)) p c), zi c] D2 := by
        refine sX6_bestDoors_97 _ _ _ _ _ ?_
        simp only [tX6_bestDoors_97, w_ic, w_lc, w_lds, w_ild, w_lld, w_ald, w_ist, w_lst, w_ast, w_iinc, w_iadd, w_isub, w_imul, w_idiv, w_irem, w_iand, w_ior, w_ixor, w_ishl, w_ishr, w_iushr, w_ineg, w_ladd, w_lsub, w_lmul, w_ldiv, w_lrem, w_lcmp, w_i2l, w_l2i, w_dup, w_pop, w_dup2, w_ieq, w_zeq, w_ine, w_zne, w_ilt, w_zlt, w_ige, w_zge, w_igt, w_zgt, w_ile, w_zle, w_cut, w_tsw, zsw, w_iret, w_zret, w_lret, w_vret, w_nret, w_getI, w_getJ, w_getR, w_putI, w_putZ, w_putJ, w_iald, w_zald, w_iast, w_zast, w_alen, w_sI, w_sJ, w_sV, w_vI, w_vJ, w_vV, w_tI, w_mmax, w_mmin, w_mabs, w_lmax, w_acopy, gL, sL, kl_i, kl_l, kl_r, kl_s, kl_m, qI_i, qJ_l, qA_r, qA_s, pI_i, pJ_l, pA_r, pS_s, pM_m, pV_v, c1_i, c1_r, c1_s, c1_m, cS_0, cS_i, cS_l, cS_r, cS_s, cS_m, pN, z_rc_r, zE1, zE2, zE3, true_and, and_true, Nat.zero_add, Nat.reduceAdd, Nat.reduceLeDiff, true_or, or_true, Int.reduceLE, Int.reduceLT, zcmp_l, zcmp_g, zcmp_e, zcmp_le, mo, mf0, mz0, mf1, mz1, mf2, mz2, mf6, mz6, mf10, mz10, mf11, mz11, mf12, mz12, mf13, mz13, mf14, mz14, mf16, mz16, mf17, mz17, mf18, mz18, mf19, mz19, mi3, mi7, mi8, mi9, mi15, mi4, mi5, mi20, ma125, mn125, ma126, mn126, ma127, mn127, ma128, mn128, ma129, mn129, ma130, mn130, ma131, mn131, ma132, mn132, ma133, mn133, ma134, mn134, ma135, mn135, ma136, mn136, ma137, mn137]
        rw [hdc2]
        refine ⟨fun _ => ⟨fun _ => ?_, fun w => absurd (by omega) w⟩, fun w => absurd (by omega) w⟩
        repeat' (with_reducible apply And.intro)
        all_goals first | omega | exact ⟨by omega, by omega⟩ | skip
        rw [show J - 1 + 1 = J by omega]
        exact l205 _ J rfl (by omega) J1 hpar
      refine sX6_bestDoors_84 _ _ _ _ _ ?_
      simp only [tX6_bestDoors_84, w_ic, w_lc, w_lds, w_ild, w_lld, w_ald, w_ist, w_lst, w_ast, w_iinc, w_iadd, w_isub, w_imul, w_idiv, w_irem, w_iand, w_ior, w_ixor, w_ishl, w_ishr, w_iushr, w_ineg, w_ladd, w_lsub, w_lmul, w_ldiv, w_lrem, w_lcmp, w_i2l, w_l2i, w_dup, w_pop, w_dup2, w_ieq, w_zeq, w_ine, w_zne, w_ilt, w_zlt, w_ige, w_zge, w_igt, w_zgt, w_ile, w_zle, w_cut, w_tsw, zsw, w_iret, w_zret, w_lret, w_vret, w_nret, w_getI, w_getJ, w_getR, w_putI, w_putZ, w_putJ, w_iald, w_zald, w_iast, w_zast, w_alen, w_sI, w_sJ, w_sV, w_vI, w_vJ, w_vV, w_tI, w_mmax, w_mmin, w_mabs, w_lmax, w_acopy, gL, sL, kl_i, kl_l, kl_r, kl_s, kl_m, qI_i, qJ_l, qA_r, qA_s, pI_i, pJ_l, pA_r, pS_s, pM_m, pV_v, c1_i, c1_r, c1_s, c1_m, cS_0, cS_i, cS_l, cS_r, cS_s, cS_m, pN, z_rc_r, zE1, zE2, zE3, true_and, and_true, Nat.zero_add, Nat.reduceAdd, Nat.reduceLeDiff, true_or, or_true, Int.reduceLE, Int.reduceLT, zcmp_l, zcmp_g, zcmp_e, zcmp_le, mo, mf0, mz0, mf1, mz1, mf2, mz2, mf6, mz6, mf10, mz10, mf11, mz11, mf12, mz12, mf13, mz13, mf14, mz14, mf16, mz16, mf17, mz17, mf18, mz18, mf19, mz19, mi3, mi7, mi8, mi9, mi15, mi4, mi5, mi20, ma125, mn125, ma126, mn126, ma127, mn127, ma128, mn128, ma129, mn129, ma130, mn130, ma131, mn131, ma132, mn132, ma133, mn133, ma134, mn134, ma135, mn135, ma136, mn136, ma137, mn137]
      refine ⟨fun w => absurd w (by omega), fun _ => ?_⟩
      exact l97 c p l D2 (by omega) hp hh2 hd2 hK97 c 0 (by omega) (by omega)
    exact inner _ 0 l0 v4 v5 v6 D1 rfl (by omega) n1.1 hf hh hdoor hdc parR_0 hl0
theorem m_bestDoors {n : Int} {D s : Mem} {P : Int → Mem → Prop} (hM : yS D s) (hW : WS n s) (hP : ∀ (l : Int) (D' : Mem), yF D D' → (sLe (s 0 1) (sDs (s 0)) 0 = -1 → l = 1000000) → (sLe (s 0 1) (sDs (s 0)) 0 ≠ -1 → l = sLe (s 0 1) (sDs (s 0)) 0 ∧ l < 1000000 ∧ ∀ e, 0 ≤ e → e < s 0 1 → D' 136 e = sFh (s 0 1) (sDs (s 0)) e (sTk (s 0 1) (sDs (s 0)) e.toNat)) → P l D') : zC miX6_bestDoors [zr 124] D P := by
  have w := hW.1.1
  have h := hM.1
  have n0 := w.n0
  have n1 := w.n1
  have l9 : ∀ (m : Nat) (j : Int) (v3 v4 v5 v6 : AV) (D1 : Mem), (s 0 1 - j).toNat = m → 0 ≤ j → j ≤ s 0 1 → yF D D1 → (∀ i k, 0 ≤ i → i < s 0 1 → 0 ≤ k → k < j → D1 134 (6 * i + k) = zFar (sDs (s 0) i k)) → zW miX6_bestDoors P 9 [zr 124, zi (s 0 1), zi j, v3, v4, v5, v6] D1 := by
    intro m
    induction m with
    | zero =>
      intro j v3 v4 v5 v6 D1 hm j0 j1 hf hv
      have hL := sL_b (d := sDs (s 0)) n1.2 (fun i j a b c d => sDs_b w.w1 a b c d) (s 0 1).toNat 0 (by omega)
      have eL : sLe (s 0 1) (sDs (s 0)) 0 = sLw (s 0 1) (sDs (s 0)) (s 0 1).toNat 0 := by
        unfold sLe
        rw [show zpc 0 = 0 from rfl, Int.sub_zero]
      rw [← eL] at hL
      refine sX6_bestDoors_9 _ _ _ _ _ ?_
      simp only [tX6_bestDoors_9, w_ic, w_lc, w_lds, w_ild, w_lld, w_ald, w_ist, w_lst, w_ast, w_iinc, w_iadd, w_isub, w_imul, w_idiv, w_irem, w_iand, w_ior, w_ixor, w_ishl, w_ishr, w_iushr, w_ineg, w_ladd, w_lsub, w_lmul, w_ldiv, w_lrem, w_lcmp, w_i2l, w_l2i, w_dup, w_pop, w_dup2, w_ieq, w_zeq, w_ine, w_zne, w_ilt, w_zlt, w_ige, w_zge, w_igt, w_zgt, w_ile, w_zle, w_cut, w_tsw, zsw, w_iret, w_zret, w_lret, w_vret, w_nret, w_getI, w_getJ, w_getR, w_putI, w_putZ, w_putJ, w_iald, w_zald, w_iast, w_zast, w_alen, w_sI, w_sJ, w_sV, w_vI, w_vJ, w_vV, w_tI, w_mmax, w_mmin, w_mabs, w_lmax, w_acopy, gL, sL, kl_i, kl_l, kl_r, kl_s, kl_m, qI_i, qJ_l, qA_r, qA_s, pI_i, pJ_l, pA_r, pS_s, pM_m, pV_v, c1_i, c1_r, c1_s, c1_m, cS_0, cS_i, cS_l, cS_r, cS_s, cS_m, pN, z_rc_r, zE1, zE2, zE3, true_and, and_true, Nat.zero_add, Nat.reduceAdd, Nat.reduceLeDiff, true_or, or_true, Int.reduceLE, Int.reduceLT, zcmp_l, zcmp_g, zcmp_e, zcmp_le, mo, mf0, mz0, mf1, mz1, mf2, mz2, mf6, mz6, mf10, mz10, mf11, mz11, mf12, mz12, mf13, mz13, mf14, mz14, mf16, mz16, mf17, mz17, mf18, mz18, mf19, mz19, mi3, mi7, mi8, mi9, mi15, mi4, mi5, mi20, ma125, mn125, ma126, mn126, ma127, mn127, ma128, mn128, ma129, mn129, ma130, mn130, ma131, mn131, ma132, mn132, ma133, mn133, ma134, mn134, ma135, mn135, ma136, mn136, ma137, mn137]
      refine ⟨fun _ => ?_, fun w => absurd (by omega) w⟩
      have fin := m_dfs (D0 := D) (P := P) w (s 0 1).toNat 0 (fun _ => 0) 1000000 v4 v5 v6 (zU D1 135 0 (-1)) (by omega) (fun e he => by omega) (hf.trans (yF.up (by decide))) (fun i k a b c d => by rw [zU_o (by decide)]; exact hv i k a b c (by omega)) (fun e e0 e1 => by omega) zU_s (Int.le_refl _) (fun l v4 v5 v6 D2 f2 _ _ hs _ => by
        have hs1 := hs.1
        have hs2 := hs.2
        have e0 : dM (fun _ => 0) 0 = 0 := rfl
        have e1 : dG (sDs (s 0)) (fun _ => 0) 0 = 0 := rfl
        rw [e0, e1] at hs1 hs2
        refine sX6_bestDoors_84 _ _ _ _ _ ?_
        simp only [tX6_bestDoors_84, w_ic, w_lc, w_lds, w_ild, w_lld, w_ald, w_ist, w_lst, w_ast, w_iinc, w_iadd, w_isub, w_imul, w_idiv, w_irem, w_iand, w_ior, w_ixor, w_ishl, w_ishr, w_iushr, w_ineg, w_ladd, w_lsub, w_lmul, w_ldiv, w_lrem, w_lcmp, w_i2l, w_l2i, w_dup, w_pop, w_dup2, w_ieq, w_zeq, w_ine, w_zne, w_ilt, w_zlt, w_ige, w_zge, w_igt, w_zgt, w_ile, w_zle, w_cut, w_tsw, zsw, w_iret, w_zret, w_lret, w_vret, w_nret, w_getI, w_getJ, w_getR, w_putI, w_putZ, w_putJ, w_iald, w_zald, w_iast, w_zast, w_alen, w_sI, w_sJ, w_sV, w_vI, w_vJ, w_vV, w_tI, w_mmax, w_mmin, w_mabs, w_lmax, w_acopy, gL, sL, kl_i, kl_l, kl_r, kl_s, kl_m, qI_i, qJ_l, qA_r, qA_s, pI_i, pJ_l, pA_r, pS_s, pM_m, pV_v, c1_i, c1_r, c1_s, c1_m, cS_0, cS_i, cS_l, cS_r, cS_s, cS_m, pN, z_rc_r, zE1, zE2, zE3, true_and, and_true, Nat.zero_add, Nat.reduceAdd, Nat.reduceLeDiff, true_or, or_true, Int.reduceLE, Int.reduceLT, zcmp_l, zcmp_g, zcmp_e, zcmp_le, mo, mf0, mz0, mf1, mz1, mf2, mz2, mf6, mz6, mf10, mz10, mf11, mz11, mf12, mz12, mf13, mz13, mf14, mz14, mf16, mz16, mf17, mz17, mf18, mz18, mf19, mz19, mi3, mi7, mi8, mi9, mi15, mi4, mi5, mi20, ma125, mn125, ma126, mn126, ma127, mn127, ma128, mn128, ma129, mn129, ma130, mn130, ma131, mn131, ma132, mn132, ma133, mn133, ma134, mn134, ma135, mn135, ma136, mn136, ma137, mn137]
        refine ⟨fun _ => hP l D2 f2 (fun q => (hs1 (Or.inl q)).1) (fun q => ?_), fun w => absurd (by omega) w⟩
        obtain ⟨a1, a2, a3⟩ := hs2 ⟨q, by omega⟩
        refine ⟨by omega, by omega, fun e e0 e1 => ?_⟩
        obtain ⟨k, rfl⟩ := Int.eq_ofNat_of_zero_le e0
        have a4 := a3 k (by omega) e1
        rw [a4, Int.toNat_natCast]
        have a5 := gC_tk (n := s 0 1) (d := sDs (s 0)) (e := k) (s 0 1 - ((0 : Nat) : Int)).toNat 0 (by omega) (by omega)
        exact a5)
      exact fin
    | succ m ih =>
      intro j v3 v4 v5 v6 D1 hm j0 j1 hf hv
      have h1 := (hM.s hf).1
      have hh := (w.w1.2 j j0 (by omega)).2.1
      refine sX6_bestDoors_9 _ _ _ _ _ ?_
      simp only [tX6_bestDoors_9, w_ic, w_lc, w_lds, w_ild, w_lld, w_ald, w_ist, w_lst, w_ast, w_iinc, w_iadd, w_isub, w_imul, w_idiv, w_irem, w_iand, w_ior, w_ixor, w_ishl, w_ishr, w_iushr, w_ineg, w_ladd, w_lsub, w_lmul, w_ldiv, w_lrem, w_lcmp, w_i2l, w_l2i, w_dup, w_pop, w_dup2, w_ieq, w_zeq, w_ine, w_zne, w_ilt, w_zlt, w_ige, w_zge, w_igt, w_zgt, w_ile, w_zle, w_cut, w_tsw, zsw, w_iret, w_zret, w_lret, w_vret, w_nret, w_getI, w_getJ, w_getR, w_putI, w_putZ, w_putJ, w_iald, w_zald, w_iast, w_zast, w_alen, w_sI, w_sJ, w_sV, w_vI, w_vJ, w_vV, w_tI, w_mmax, w_mmin, w_mabs, w_lmax, w_acopy, gL, sL, kl_i, kl_l, kl_r, kl_s, kl_m, qI_i, qJ_l, qA_r, qA_s, pI_i, pJ_l, pA_r, pS_s, pM_m, pV_v, c1_i, c1_r, c1_s, c1_m, cS_0, cS_i, cS_l, cS_r, cS_s, cS_m, pN, z_rc_r, zE1, zE2, zE3, true_and, and_true, Nat.zero_add, Nat.reduceAdd, Nat.reduceLeDiff, true_or, or_true, Int.reduceLE, Int.reduceLT, zcmp_l, zcmp_g, zcmp_e, zcmp_le, mo, mf0, mz0, mf1, mz1, mf2, mz2, mf6, mz6, mf10, mz10, mf11, mz11, mf12, mz12, mf13, mz13, mf14, mz14, mf16, mz16, mf17, mz17, mf18, mz18, mf19, mz19, mi3, mi7, mi8, mi9, mi15, mi4, mi5, mi20, ma125, mn125, ma126, mn126, ma127, mn127, ma128, mn128, ma129, mn129, ma130, mn130, ma131, mn131, ma132, mn132, ma133, mn133, ma134, mn134, ma135, mn135, ma136, mn136, ma137, mn137]
      rw [h1.z (j := 22 + j) (by omega) (by omega)]
      refine ⟨fun w => absurd w (by omega), fun _ => ?_⟩
      repeat' (with_reducible apply And.intro)
      all_goals first | omega | exact ⟨by omega, by omega⟩ | skip
      refine m_laysAway (S := fun c => c = s 0 (22 + j)) (Or.inl rfl) h1.q n0 (fun c _ => ⟨fun w => Or.inr ⟨hh.1, w⟩, fun w => w.elim (fun w => by have := hh.1; omega) fun w => w.2⟩) fun D2 f2 he => ?_
      have l30 : ∀ (mm : Nat) (i : Int) (D3 : Mem), (s 0 1 - i).toNat = mm → 0 ≤ i → i ≤ s 0 1 → yF D D3 → (∀ c, D3 129 c = D2 129 c) → (∀ i' k, 0 ≤ i' → i' < s 0 1 → 0 ≤ k → (k < j ∨ (k = j ∧ i' < i)) → D3 134 (6 * i' + k) = zFar (sDs (s 0) i' k)) → zW miX6_bestDoors P 30 [zr 124, zi (s 0 1), zi j, zi i, v4, v5, v6] D3 := by
        intro mm
        induction mm with
        | zero =>
          intro i D3 hmm i0 i1 hf3 hg3 hv3
          refine sX6_bestDoors_30 _ _ _ _ _ ?_
          simp only [tX6_bestDoors_30, w_ic, w_lc, w_lds, w_ild, w_lld, w_ald, w_ist, w_lst, w_ast, w_iinc, w_iadd, w_isub, w_imul, w_idiv, w_irem, w_iand, w_ior, w_ixor, w_ishl, w_ishr, w_iushr, w_ineg, w_ladd, w_lsub, w_lmul, w_ldiv, w_lrem, w_lcmp, w_i2l, w_l2i, w_dup, w_pop, w_dup2, w_ieq, w_zeq, w_ine, w_zne, w_ilt, w_zlt, w_ige, w_zge, w_igt, w_zgt, w_ile, w_zle, w_cut, w_tsw, zsw, w_iret, w_zret, w_lret, w_vret, w_nret, w_getI, w_getJ, w_getR, w_putI, w_putZ, w_putJ, w_iald, w_zald, w_iast, w_zast, w_alen, w_sI, w_sJ, w_sV, w_vI, w_vJ, w_vV, w_tI, w_mmax, w_mmin, w_mabs, w_lmax, w_acopy, gL, sL, kl_i, kl_l, kl_r, kl_s, kl_m, qI_i, qJ_l, qA_r, qA_s, pI_i, pJ_l, pA_r, pS_s, pM_m, pV_v, c1_i, c1_r, c1_s, c1_m, cS_0, cS_i, cS_l, cS_r, cS_s, cS_m, pN, z_rc_r, zE1, zE2, zE3, true_and, and_true, Nat.zero_add, Nat.reduceAdd, Nat.reduceLeDiff, true_or, or_true, Int.reduceLE, Int.reduceLT, zcmp_l, zcmp_g, zcmp_e, zcmp_le, mo, mf0, mz0, mf1, mz1, mf2, mz2, mf6, mz6, mf10, mz10, mf11, mz11, mf12, mz12, mf13, mz13, mf14, mz14, mf16, mz16, mf17, mz17, mf18, mz18, mf19, mz19, mi3, mi7, mi8, mi9, mi15, mi4, mi5, mi20, ma125, mn125, ma126, mn126, ma127, mn127, ma128, mn128, ma129, mn129, ma130, mn130, ma131, mn131, ma132, mn132, ma133, mn133, ma134, mn134, ma135, mn135, ma136, mn136, ma137, mn137]
          refine ⟨fun _ => ⟨⟨by omega, by omega⟩, ih (j + 1) _ _ _ _ D3 (by omega) (by omega) (by omega) hf3 fun i' k a b c d => hv3 i' k a b c (by omega)⟩, fun w => absurd (by omega) w⟩
        | succ mm ihm =>
          intro i D3 hmm i0 i1 hf3 hg3 hv3
          have h3 := (hM.s hf3).1
          have hat := (w.w1.2 i i0 (by omega)).2.2.2.1
          have at0 := hat.1
          have at1 := hat.2
          have e1 := (he _ hat).1
          refine sX6_bestDoors_30 _ _ _ _ _ ?_
          simp only [tX6_bestDoors_30, w_ic, w_lc, w_lds, w_ild, w_lld, w_ald, w_ist, w_lst, w_ast, w_iinc, w_iadd, w_isub, w_imul, w_idiv, w_irem, w_iand, w_ior, w_ixor, w_ishl, w_ishr, w_iushr, w_ineg, w_ladd, w_lsub, w_lmul, w_ldiv, w_lrem, w_lcmp, w_i2l, w_l2i, w_dup, w_pop, w_dup2, w_ieq, w_zeq, w_ine, w_zne, w_ilt, w_zlt, w_ige, w_zge, w_igt, w_zgt, w_ile, w_zle, w_cut, w_tsw, zsw, w_iret, w_zret, w_lret, w_vret, w_nret, w_getI, w_getJ, w_getR, w_putI, w_putZ, w_putJ, w_iald, w_zald, w_iast, w_zast, w_alen, w_sI, w_sJ, w_sV, w_vI, w_vJ, w_vV, w_tI, w_mmax, w_mmin, w_mabs, w_lmax, w_acopy, gL, sL, kl_i, kl_l, kl_r, kl_s, kl_m, qI_i, qJ_l, qA_r, qA_s, pI_i, pJ_l, pA_r, pS_s, pM_m, pV_v, c1_i, c1_r, c1_s, c1_m, cS_0, cS_i, cS_l, cS_r, cS_s, cS_m, pN, z_rc_r, zE1, zE2, zE3, true_and, and_true, Nat.zero_add, Nat.reduceAdd, Nat.reduceLeDiff, true_or, or_true, Int.reduceLE, Int.reduceLT, zcmp_l, zcmp_g, zcmp_e, zcmp_le, mo, mf0, mz0, mf1, mz1, mf2, mz2, mf6, mz6, mf10, mz10, mf11, mz11, mf12, mz12, mf13, mz13, mf14, mz14, mf16, mz16, mf17, mz17, mf18, mz18, mf19, mz19, mi3, mi7, mi8, mi9, mi15, mi4, mi5, mi20, ma125, mn125, ma126, mn126, ma127, mn127, ma128, mn128, ma129, mn129, ma130, mn130, ma131, mn131, ma132, mn132, ma133, mn133, ma134, mn134, ma135, mn135, ma136, mn136, ma137, mn137]
          rw [h3.z (j := 34 + i) (by omega) (by omega), hg3, e1]
          refine ⟨fun w => absurd w (by omega), fun _ => ?_⟩
          repeat' (with_reducible apply And.intro)
          all_goals first | omega | exact ⟨by omega, by omega⟩ | skip
          refine ihm (i + 1) _ (by omega) (by omega) (by omega) (hf3.trans (yF.up (by decide))) (fun c => by rw [zU_o (by decide)]; exact hg3 c) fun i' k a b c d => ?_
          by_cases g : i' = i ∧ k = j
          · rw [g.1, g.2, zU_s]
            rfl
          · rw [zU_k (by omega)]
            exact hv3 i' k a b c (by omega)
      exact l30 _ 0 D2 rfl (by omega) n1.1 (hf.trans f2.s) (fun _ => rfl) fun i' k a b c d => by
        rw [f2 134 (by decide) (by decide)]
        exact hv i' k a b c (by omega)
  refine e_X6_bestDoors ?_
  simp only [tX6_bestDoors_0, w_ic, w_lc, w_lds, w_ild, w_lld, w_ald, w_ist, w_lst, w_ast, w_iinc, w_iadd, w_isub, w_imul, w_idiv, w_irem, w_iand, w_ior, w_ixor, w_ishl, w_ishr, w_iushr, w_ineg, w_ladd, w_lsub, w_lmul, w_ldiv, w_lrem, w_lcmp, w_i2l, w_l2i, w_dup, w_pop, w_dup2, w_ieq, w_zeq, w_ine, w_zne, w_ilt, w_zlt, w_ige, w_zge, w_igt, w_zgt, w_ile, w_zle, w_cut, w_tsw, zsw, w_iret, w_zret, w_lret, w_vret, w_nret, w_getI, w_getJ, w_getR, w_putI, w_putZ, w_putJ, w_iald, w_zald, w_iast, w_zast, w_alen, w_sI, w_sJ, w_sV, w_vI, w_vJ, w_vV, w_tI, w_mmax, w_mmin, w_mabs, w_lmax, w_acopy, gL, sL, kl_i, kl_l, kl_r, kl_s, kl_m, qI_i, qJ_l, qA_r, qA_s, pI_i, pJ_l, pA_r, pS_s, pM_m, pV_v, c1_i, c1_r, c1_s, c1_m, cS_0, cS_i, cS_l, cS_r, cS_s, cS_m, pN, z_rc_r, zE1, zE2, zE3, true_and, and_true, Nat.zero_add, Nat.reduceAdd, Nat.reduceLeDiff, true_or, or_true, Int.reduceLE, Int.reduceLT, zcmp_l, zcmp_g, zcmp_e, zcmp_le, mo, mf0, mz0, mf1, mz1, mf2, mz2, mf6, mz6, mf10, mz10, mf11, mz11, mf12, mz12, mf13, mz13, mf14, mz14, mf16, mz16, mf17, mz17, mf18, mz18, mf19, mz19, mi3, mi7, mi8, mi9, mi15, mi4, mi5, mi20, ma125, mn125, ma126, mn126, ma127, mn127, ma128, mn128, ma129, mn129, ma130, mn130, ma131, mn131, ma132, mn132, ma133, mn133, ma134, mn134, ma135, mn135, ma136, mn136, ma137, mn137]
  rw [h.z (by omega) (by omega)]
  exact l9 _ 0 _ _ _ _ D rfl (by omega) n1.1 yF.rfl (fun i k a b c d => by omega)
theorem m_doors {n i : Int} {s : Mem} (hW : WS n s) (hn : n < 1000000) : mOK miX6_doors [zr 124, zi i] s (r_doors s i) := by
  intro D P hM hP
  have w := hW.1.1
  have h := hM.1
  have n1 := w.n1
  unfold r_doors at hP
  have main : (i = -1 ∨ (0 ≤ i ∧ i < s 0 1)) → zC miX6_bestDoors [zr 124] D (fun x D' => (¬ x = 1000000 → (¬ i = -1 → 0 ≤ i ∧ i < 6 ∧ P (D' 136 i) D') ∧ (¬ ¬ i = -1 → P x D')) ∧ (¬ ¬ x = 1000000 → P (-6) D')) := by
    intro hi
    rw [cIf_t hi] at hP
    refine m_bestDoors hM hW fun l D' f e1 e2 => ?_
    have hP' := hP D' f.fr
    by_cases g : sLe (s 0 1) (sDs (s 0)) 0 = -1
    · rw [cIf_t g] at hP'
      have := e1 g
      exact ⟨fun q => absurd this q, fun _ => hP' (hM.s f)⟩
    · rw [cIf_f g] at hP'
      obtain ⟨a1, a2, a3⟩ := e2 g
      refine ⟨fun _ => ⟨fun q => ?_, fun q => ?_⟩, fun q => absurd (by omega) q⟩
      · rw [cIf_f q] at hP'
        rw [a3 i (by omega) (by omega)]
        exact ⟨by omega, by omega, hP' (hM.s f)⟩
      · rw [cIf_t (Decidable.not_not.mp q)] at hP'
        rw [a1]
        exact hP' (hM.s f)
  refine e_X6_doors ?_
  simp only [tX6_doors_0, w_ic, w_lc, w_lds, w_ild, w_lld, w_ald, w_ist, w_lst, w_ast, w_iinc, w_iadd, w_isub, w_imul, w_idiv, w_irem, w_iand, w_ior, w_ixor, w_ishl, w_ishr, w_iushr, w_ineg, w_ladd, w_lsub, w_lmul, w_ldiv, w_lrem, w_lcmp, w_i2l, w_l2i, w_dup, w_pop, w_dup2, w_ieq, w_zeq, w_ine, w_zne, w_ilt, w_zlt, w_ige, w_zge, w_igt, w_zgt, w_ile, w_zle, w_cut, w_tsw, zsw, w_iret, w_zret, w_lret, w_vret, w_nret, w_getI, w_getJ, w_getR, w_putI, w_putZ, w_putJ, w_iald, w_zald, w_iast, w_zast, w_alen, w_sI, w_sJ, w_sV, w_vI, w_vJ, w_vV, w_tI, w_mmax, w_mmin, w_mabs, w_lmax, w_acopy, gL, sL, kl_i, kl_l, kl_r, kl_s, kl_m, qI_i, qJ_l, qA_r, qA_s, pI_i, pJ_l, pA_r, pS_s, pM_m, pV_v, c1_i, c1_r, c1_s, c1_m, cS_0, cS_i, cS_l, cS_r, cS_s, cS_m, pN, z_rc_r, zE1, zE2, zE3, true_and, and_true, Nat.zero_add, Nat.reduceAdd, Nat.reduceLeDiff, true_or, or_true, Int.reduceLE, Int.reduceLT, zcmp_l, zcmp_g, zcmp_e, zcmp_le, mo, mf0, mz0, mf1, mz1, mf2, mz2, mf6, mz6, mf10, mz10, mf11, mz11, mf12, mz12, mf13, mz13, mf14, mz14, mf16, mz16, mf17, mz17, mf18, mz18, mf19, mz19, mi3, mi7, mi8, mi9, mi15, mi4, mi5, mi20, ma125, mn125, ma126, mn126, ma127, mn127, ma128, mn128, ma129, mn129, ma130, mn130, ma131, mn131, ma132, mn132, ma133, mn133, ma134, mn134, ma135, mn135, ma136, mn136, ma137, mn137]
  refine ⟨fun q => main (Or.inl q), fun q => ?_⟩
  refine m_isGoer h n1 (fun q2 => ⟨fun _ => main (Or.inr q2), fun w => absurd (by decide) w⟩) (fun q2 => ⟨fun w => absurd rfl w, fun _ => ?_⟩)
  rw [cIf_f (by omega)] at hP
  exact m_bad hM hW hn hP
