/-! ===== 22: writing into a Back ===== -/
def zPc (D : Mem) (o r : Nat) (w n : Int) (f : Int → Int → Int) : Prop := D o 3 = n ∧ ∀ k c, 0 ≤ k → k < n → 0 ≤ c → c < w → D r (k * w + c) = f k c
theorem zPc.of {D D' : Mem} {o r : Nat} {w n n' : Int} {f f' : Int → Int → Int} (h : zPc D o r w n f) (eo : D' o = D o) (er : D' r = D r) (en : n' = n) (ef : ∀ k c, 0 ≤ k → k < n → 0 ≤ c → c < w → f' k c = f k c) : zPc D' o r w n' f' := by
  subst en
  refine ⟨by rw [eo]; exact h.1, fun k c k0 k1 c0 c1 => ?_⟩
  rw [er, ef k c k0 k1 c0 c1]
  exact h.2 k c k0 k1 c0 c1
theorem zm_inj {k c i d w : Int} (c0 : 0 ≤ c) (c1 : c < w) (d0 : 0 ≤ d) (d1 : d < w) (h : k * w + c = i * w + d) : k = i ∧ c = d := by
  have e : k = i := by
    rcases Int.lt_trichotomy k i with q | q | q
    · have : (k + 1) * w ≤ i * w := Int.mul_le_mul_of_nonneg_right (by omega) (by omega)
      rw [Int.add_mul, Int.one_mul] at this
      omega
    · exact q
    · have : (i + 1) * w ≤ k * w := Int.mul_le_mul_of_nonneg_right (by omega) (by omega)
      rw [Int.add_mul, Int.one_mul] at this
      omega
  subst e
  exact ⟨rfl, by omega⟩
theorem zPc.set {D : Mem} {o r : Nat} {w n n' i d x : Int} {f f' : Int → Int → Int} (h : zPc D o r w n f) (hor : o ≠ r) (d0 : 0 ≤ d) (d1 : d < w) (en : n' = n) (ex : f' i d = x) (ef : ∀ k c, 0 ≤ k → k < n → 0 ≤ c → c < w → (k ≠ i ∨ c ≠ d) → f' k c = f k c) : zPc (zU D r (i * w + d) x) o r w n' f' := by
  subst en
  refine ⟨by rw [zU_o hor]; exact h.1, fun k c k0 k1 c0 c1 => ?_⟩
  by_cases q : k = i ∧ c = d
  · rw [q.1, q.2, zU_s, ex]
  · rw [zU_k (fun e => q (zm_inj c0 c1 d0 d1 e)), ef k c k0 k1 c0 c1 (by omega)]
    exact h.2 k c k0 k1 c0 c1
theorem zPc.add {D D' : Mem} {o r : Nat} {w n n' : Int} {f f' : Int → Int → Int} (h : zPc D o r w n f) (h3 : D' o 3 = D o 3 + 1) (hn : ∀ j : Int, 0 ≤ j → j < w → D' r (D o 3 * w + j) = f' n j) (hw : 0 < w) (hl : ∀ j : Int, j < D o 3 * w → D' r j = D r j) (en : n' = n + 1) (ef : ∀ k c, 0 ≤ k → k < n → 0 ≤ c → c < w → f' k c = f k c) : zPc D' o r w n' f' := by
  subst en
  refine ⟨by rw [h3, h.1], fun k c k0 k1 c0 c1 => ?_⟩
  rw [h.1] at hn hl
  by_cases q : k = n
  · rw [q]; exact hn c c0 c1
  · have hk : k < n := by omega
    rw [hl _ (by have := zm_lt k0 hk c0 c1; omega), ef k c k0 hk c0 c1]
    exact h.2 k c k0 hk c0 c1
theorem zPc.nil {D : Mem} {o r : Nat} {w n : Int} {f : Int → Int → Int} (h : D o 3 = 0) (hn : n = 0) : zPc D o r w n f := ⟨by omega, fun k c k0 k1 => by omega⟩
def zPp (D : Mem) (b : Nat) (n0 n1 : Int) (a : Int → Int) : Prop := D (b + 19) 3 = a 120 ∧ ∀ u, 0 ≤ u → u < a 120 → D (b + 21) (u * 19) = a (121 + 19 * u) ∧ (∀ i, 0 ≤ i → i < n1 → D (b + 21) (u * 19 + (1 + i)) = a (128 + 19 * u + i) ∧ D (b + 21) (u * 19 + (7 + i)) = a (134 + 19 * u + i)) ∧ (∀ k, 0 ≤ k → k < n0 → D (b + 21) (u * 19 + (13 + k)) = a (122 + 19 * u + k))
theorem zPp.of {D D' : Mem} {b : Nat} {n0 n1 n0' n1' : Int} {a a' : Int → Int} (h : zPp D b n0 n1 a) (eo : D' (b + 19) = D (b + 19)) (er : D' (b + 21) = D (b + 21)) (e0 : n0' = n0) (e1 : n1' = n1) (h0 : n0 ≤ 6) (h1 : n1 ≤ 6) (h7 : a 120 ≤ 8) (e : ∀ j, 120 ≤ j → j < 273 → a' j = a j) : zPp D' b n0' n1' a' := by
  subst e0 e1
  refine ⟨by rw [eo, e 120 (by omega) (by omega)]; exact h.1, fun u u0 u1 => ?_⟩
  rw [e 120 (by omega) (by omega)] at u1
  have := h.2 u u0 u1
  rw [er]
  refine ⟨by rw [e _ (by omega) (by omega)]; exact this.1, fun i i0 i1 => ?_, fun k k0 k1 => ?_⟩
  · rw [e _ (by omega) (by omega), e _ (by omega) (by omega)]; exact this.2.1 i i0 i1
  · rw [e _ (by omega) (by omega)]; exact this.2.2 k k0 k1
theorem zPp.nil {D : Mem} {b : Nat} {n0 n1 : Int} {a : Int → Int} (h : D (b + 19) 3 = 0) (hn : a 120 = 0) : zPp D b n0 n1 a := ⟨by omega, fun k k0 k1 => by omega⟩
def pcL (D : Mem) (b : Nat) (a : Int → Int) : Prop := zPc D (b + 1) (b + 3) 2 (a 0) (fun k c => a (4 + 6 * c + k))
def pcG (D : Mem) (b : Nat) (a : Int → Int) : Prop := zPc D (b + 4) (b + 6) 5 (a 1) (fun k c => a (16 + 6 * c + k))
def pcW (D : Mem) (b : Nat) (a : Int → Int) : Prop := zPc D (b + 7) (b + 9) 2 (a 2) (fun k c => a (46 + 4 * c + k))
def pcS (D : Mem) (b : Nat) (a : Int → Int) : Prop := zPc D (b + 10) (b + 12) 3 (a 54) (fun k c => a (55 + 3 * k + c))
def pcN (D : Mem) (b : Nat) (a : Int → Int) : Prop := zPc D (b + 13) (b + 15) 4 (a 70) (fun k c => a (71 + 4 * k + c))
def pcK (D : Mem) (b : Nat) (a : Int → Int) : Prop := zPc D (b + 16) (b + 18) 4 (a 95) (fun k c => a (96 + 4 * k + c))
def pcP (D : Mem) (b : Nat) (a : Int → Int) : Prop := zPp D b (a 0) (a 1) a
theorem ZB.l {D : Mem} {b : Nat} {a : Int → Int} (h : ZB D b a) : pcL D b a := ⟨h.1.1, h.2.1⟩
theorem ZB.g {D : Mem} {b : Nat} {a : Int → Int} (h : ZB D b a) : pcG D b a := ⟨h.1.2.1, h.2.2.1⟩
theorem ZB.w {D : Mem} {b : Nat} {a : Int → Int} (h : ZB D b a) : pcW D b a := ⟨h.1.2.2.1, h.2.2.2.1⟩
theorem ZB.m {D : Mem} {b : Nat} {a : Int → Int} (h : ZB D b a) : D b 8 = a 3 := h.1.2.2.2.1
theorem ZB.s {D : Mem} {b : Nat} {a : Int → Int} (h : ZB D b a) : pcS D b a := ⟨h.1.2.2.2.2.1, h.2.2.2.2.1⟩
theorem ZB.n {D : Mem} {b : Nat} {a : Int → Int} (h : ZB D b a) : pcN D b a := ⟨h.1.2.2.2.2.2.1, h.2.2.2.2.2.1⟩
theorem ZB.k {D : Mem} {b : Nat} {a : Int → Int} (h : ZB D b a) : pcK D b a := ⟨h.1.2.2.2.2.2.2.1, h.2.2.2.2.2.2.1⟩
theorem ZB.p {D : Mem} {b : Nat} {a : Int → Int} (h : ZB D b a) : pcP D b a := ⟨h.1.2.2.2.2.2.2.2, h.2.2.2.2.2.2.2⟩
theorem ZB.mk' {D : Mem} {b : Nat} {a : Int → Int} (hl : pcL D b a) (hg : pcG D b a) (hw : pcW D b a) (hm : D b 8 = a 3) (hs : pcS D b a) (hn : pcN D b a) (hk : pcK D b a) (hp : pcP D b a) : ZB D b a :=
  ⟨⟨hl.1, hg.1, hw.1, hm, hs.1, hn.1, hk.1, hp.1⟩, hl.2, hg.2, hw.2, hs.2, hn.2, hk.2, hp.2⟩
theorem pcL.of {D D' : Mem} {b : Nat} {a a' : Int → Int} (h : pcL D b a) (eo : D' (b + 1) = D (b + 1)) (er : D' (b + 3) = D (b + 3)) (h6 : a 0 ≤ 6) (e : ∀ j, j = 0 ∨ (4 ≤ j ∧ j < 16) → a' j = a j) : pcL D' b a' := zPc.of h eo er (e 0 (by omega)) (fun k c k0 k1 c0 c1 => e _ (by omega))
theorem pcG.of {D D' : Mem} {b : Nat} {a a' : Int → Int} (h : pcG D b a) (eo : D' (b + 4) = D (b + 4)) (er : D' (b + 6) = D (b + 6)) (h6 : a 1 ≤ 6) (e : ∀ j, j = 1 ∨ (16 ≤ j ∧ j < 46) → a' j = a j) : pcG D' b a' := zPc.of h eo er (e 1 (by omega)) (fun k c k0 k1 c0 c1 => e _ (by omega))
theorem pcW.of {D D' : Mem} {b : Nat} {a a' : Int → Int} (h : pcW D b a) (eo : D' (b + 7) = D (b + 7)) (er : D' (b + 9) = D (b + 9)) (h6 : a 2 ≤ 4) (e : ∀ j, j = 2 ∨ (46 ≤ j ∧ j < 54) → a' j = a j) : pcW D' b a' := zPc.of h eo er (e 2 (by omega)) (fun k c k0 k1 c0 c1 => e _ (by omega))
theorem pcS.of {D D' : Mem} {b : Nat} {a a' : Int → Int} (h : pcS D b a) (eo : D' (b + 10) = D (b + 10)) (er : D' (b + 12) = D (b + 12)) (h6 : a 54 ≤ 5) (e : ∀ j, (54 ≤ j ∧ j < 70) → a' j = a j) : pcS D' b a' := zPc.of h eo er (e 54 (by omega)) (fun k c k0 k1 c0 c1 => e _ (by omega))
theorem pcN.of {D D' : Mem} {b : Nat} {a a' : Int → Int} (h : pcN D b a) (eo : D' (b + 13) = D (b + 13)) (er : D' (b + 15) = D (b + 15)) (h6 : a 70 ≤ 6) (e : ∀ j, (70 ≤ j ∧ j < 95) → a' j = a j) : pcN D' b a' := zPc.of h eo er (e 70 (by omega)) (fun k c k0 k1 c0 c1 => e _ (by omega))
theorem pcK.of {D D' : Mem} {b : Nat} {a a' : Int → Int} (h : pcK D b a) (eo : D' (b + 16) = D (b + 16)) (er : D' (b + 18) = D (b + 18)) (h6 : a 95 ≤ 6) (e : ∀ j, (95 ≤ j ∧ j < 120) → a' j = a j) : pcK D' b a' := zPc.of h eo er (e 95 (by omega)) (fun k c k0 k1 c0 c1 => e _ (by omega))
theorem pcP.of {M : Int} {D D' : Mem} {b : Nat} {a a' : Int → Int} (h : pcP D b a) (hw : WA M a) (eo : D' (b + 19) = D (b + 19)) (er : D' (b + 21) = D (b + 21)) (e0 : a' 0 = a 0) (e1 : a' 1 = a 1) (e : ∀ j, 120 ≤ j → j < 273 → a' j = a j) : pcP D' b a' := zPp.of h eo er e0 e1 hw.n0.2 hw.n1.2 hw.n7.2 e
def isRw (b o : Nat) : Prop := o = b + 1 ∨ o = b + 4 ∨ o = b + 7 ∨ o = b + 10 ∨ o = b + 13 ∨ o = b + 16 ∨ o = b + 19
theorem BK.mk' {M M' : Int} {D D' : Mem} {b : Nat} {a a' : Int → Int} (h : BK M D b a) (e01 : ∀ o, isRw b o → D' o 0 = D o 0 ∧ D' o 1 = D o 1) (hz : ZB D' b a') (hw : WA M' a') (hy : ∀ o, b + 22 ≤ o → o < b + 27 → D' o = D o) : BK M' D' b a' := by
  obtain ⟨h1, h2, h3, h4, h5, h6, h7⟩ := h.1
  have k : ∀ o lim wid, isRw b o → zRD D o lim wid → 0 ≤ D' o 3 → D' o 3 ≤ lim → zRD D' o lim wid := fun o lim wid ho g g0 g1 => ⟨by rw [(e01 o ho).1]; exact g.1, by rw [(e01 o ho).2]; exact g.2.1, g0, g1⟩
  obtain ⟨z1, z2, z3, -, z4, z5, z6, z7⟩ := hz.1
  have n0 := hw.n0
  have n1 := hw.n1
  have n2 := hw.n2
  have n4 := hw.n4
  have n5 := hw.n5
  have n6 := hw.n6
  have n7 := hw.n7
  refine ⟨⟨k _ _ _ (by unfold isRw; omega) h1 ?_ ?_, k _ _ _ (by unfold isRw; omega) h2 ?_ ?_, k _ _ _ (by unfold isRw; omega) h3 ?_ ?_, k _ _ _ (by unfold isRw; omega) h4 ?_ ?_, k _ _ _ (by unfold isRw; omega) h5 ?_ ?_, k _ _ _ (by unfold isRw; omega) h6 ?_ ?_, k _ _ _ (by unfold isRw; omega) h7 ?_ ?_⟩, hz, hw, h.2.2.2.of hy⟩ <;> omega
theorem zU_rw {D : Mem} {b r o : Nat} {k x : Int} (hr : r = b + 3 ∨ r = b + 6 ∨ r = b + 9 ∨ r = b + 12 ∨ r = b + 15 ∨ r = b + 18 ∨ r = b + 21 ∨ r = b) (h : isRw b o) : zU D r k x o 0 = D o 0 ∧ zU D r k x o 1 = D o 1 := by
  have : o ≠ r := by unfold isRw at h; omega
  rw [zU_ne this]
  exact ⟨rfl, rfl⟩
theorem zU_rw3 {D : Mem} {b r o : Nat} {x : Int} (_h : isRw b o) : zU D r 3 x o 0 = D o 0 ∧ zU D r 3 x o 1 = D o 1 := ⟨zU_k (by decide), zU_k (by decide)⟩
-- reading again, when other things have changed
theorem c_gget' {M : Int} {b : Nat} {a : Int → Int} {k c : Int} {D D' : Mem} {P : Int → Mem → Prop} (hb : zBk b) (h : BK M D b a) (e1 : D' (b + 4) = D (b + 4)) (e2 : D' (b + 6) = D (b + 6)) (k0 : 0 ≤ k) (k1 : k < a 1) (c0 : 0 ≤ c) (c1 : c < 5) (hP : P (a (16 + 6 * c + k)) D') : zC miX3_get [zr (b + 4), zi k, zi c] D' P := by
  refine c_Rows_get hb.r1 (h.1.2.1.of_eq e1) k0 (by rw [e1, h.2.1.1.2.1]; exact k1) c0 c1 ?_
  have := h.2.1.2.2.1 k c k0 k1 c0 c1
  rw [show ((5 : Nat) : Int) = 5 from rfl, e2, this]
  exact hP
theorem c_lget' {M : Int} {b : Nat} {a : Int → Int} {k c : Int} {D D' : Mem} {P : Int → Mem → Prop} (hb : zBk b) (h : BK M D b a) (e1 : D' (b + 1) = D (b + 1)) (e2 : D' (b + 3) = D (b + 3)) (k0 : 0 ≤ k) (k1 : k < a 0) (c0 : 0 ≤ c) (c1 : c < 2) (hP : P (a (4 + 6 * c + k)) D') : zC miX3_get [zr (b + 1), zi k, zi c] D' P := by
  refine c_Rows_get hb.r0 (h.1.1.of_eq e1) k0 (by rw [e1, h.2.1.1.1]; exact k1) c0 c1 ?_
  have := h.2.1.2.1 k c k0 k1 c0 c1
  rw [show ((2 : Nat) : Int) = 2 from rfl, e2, this]
  exact hP
theorem c_pget {M : Int} {b : Nat} {a : Int → Int} {u c : Int} {D : Mem} {P : Int → Mem → Prop} (hb : zBk b) (h : BK M D b a) (k0 : 0 ≤ u) (k1 : u < a 120) (c0 : 0 ≤ c) (c1 : c < 19) (hP : P (D (b + 21) (u * 19 + c)) D) : zC miX3_get [zr (b + 19), zi u, zi c] D P := by
  refine c_Rows_get hb.r6 h.1.2.2.2.2.2.2 k0 (by rw [h.2.1.p.1]; exact k1) c0 c1 ?_
  rw [show ((19 : Nat) : Int) = 19 from rfl]
  exact hP
-- writing
theorem c_gset {M : Int} {b : Nat} {a : Int → Int} {k c x : Int} {D : Mem} {P : Int → Mem → Prop} (hb : zBk b) (h : BK M D b a) (k0 : 0 ≤ k) (k1 : k < a 1) (c0 : 0 ≤ c) (c1 : c < 5) (hw : WA M (zA a (16 + 6 * c + k) x)) (hP : ∀ D', Fr b (b + 22) D D' → BK M D' b (zA a (16 + 6 * c + k) x) → P 0 D') : zC miX3_set [zr (b + 4), zi k, zi c, zi x] D P := by
  have n := h.2.2.1.n1
  refine c_Rows_set hb.r1 h.1.2.1 k0 (by rw [h.2.1.1.2.1]; exact k1) c0 c1 ?_
  refine hP _ (Fr.up (by omega) (by omega)) ?_
  have e : ∀ j, (j < 16 ∨ 46 ≤ j) → zA a (16 + 6 * c + k) x j = a j := fun j q => zA_n (by omega)
  refine h.mk' (fun o ho => zU_rw (by omega) ho) (ZB.mk' (h.2.1.l.of (zU_ne (by omega)) (zU_ne (by omega)) h.2.2.1.n0.2 fun j hj => e j (by omega)) ?_ (h.2.1.w.of (zU_ne (by omega)) (zU_ne (by omega)) h.2.2.1.n2.2 fun j hj => e j (by omega)) (by rw [zU_o (by omega), e 3 (by omega)]; exact h.2.1.m) (h.2.1.s.of (zU_ne (by omega)) (zU_ne (by omega)) h.2.2.1.n4.2 fun j hj => e j (by omega)) (h.2.1.n.of (zU_ne (by omega)) (zU_ne (by omega)) h.2.2.1.n5.2 fun j hj => e j (by omega)) (h.2.1.k.of (zU_ne (by omega)) (zU_ne (by omega)) h.2.2.1.n6.2 fun j hj => e j (by omega)) (h.2.1.p.of h.2.2.1 (zU_ne (by omega)) (zU_ne (by omega)) (e 0 (by omega)) (e 1 (by omega)) fun j _ _ => e j (by omega))) hw (fun o o0 o1 => zU_ne (by omega))
  exact zPc.set h.2.1.g (by omega) c0 c1 (e 1 (by omega)) zA_s (fun k' c' a0 a1 a2 a3 a4 => zA_n (by omega))
theorem c_lset {M : Int} {b : Nat} {a : Int → Int} {k c x : Int} {D : Mem} {P : Int → Mem → Prop} (hb : zBk b) (h : BK M D b a) (k0 : 0 ≤ k) (k1 : k < a 0) (c0 : 0 ≤ c) (c1 : c < 2) (hw : WA M (zA a (4 + 6 * c + k) x)) (hP : ∀ D', Fr b (b + 22) D D' → BK M D' b (zA a (4 + 6 * c + k) x) → P 0 D') : zC miX3_set [zr (b + 1), zi k, zi c, zi x] D P := by
  have n := h.2.2.1.n0
  refine c_Rows_set hb.r0 h.1.1 k0 (by rw [h.2.1.1.1]; exact k1) c0 c1 ?_
  refine hP _ (Fr.up (by omega) (by omega)) ?_
  have e : ∀ j, (j < 4 ∨ 16 ≤ j) → zA a (4 + 6 * c + k) x j = a j := fun j q => zA_n (by omega)
  refine h.mk' (fun o ho => zU_rw (by omega) ho) (ZB.mk' ?_ (h.2.1.g.of (zU_ne (by omega)) (zU_ne (by omega)) h.2.2.1.n1.2 fun j hj => e j (by omega)) (h.2.1.w.of (zU_ne (by omega)) (zU_ne (by omega)) h.2.2.1.n2.2 fun j hj => e j (by omega)) (by rw [zU_o (by omega), e 3 (by omega)]; exact h.2.1.m) (h.2.1.s.of (zU_ne (by omega)) (zU_ne (by omega)) h.2.2.1.n4.2 fun j hj => e j (by omega)) (h.2.1.n.of (zU_ne (by omega)) (zU_ne (by omega)) h.2.2.1.n5.2 fun j hj => e j (by omega)) (h.2.1.k.of (zU_ne (by omega)) (zU_ne (by omega)) h.2.2.1.n6.2 fun j hj => e j (by omega)) (h.2.1.p.of h.2.2.1 (zU_ne (by omega)) (zU_ne (by omega)) (e 0 (by omega)) (e 1 (by omega)) fun j _ _ => e j (by omega))) hw (fun o o0 o1 => zU_ne (by omega))
  exact zPc.set h.2.1.l (by omega) c0 c1 (e 0 (by omega)) zA_s (fun k' c' a0 a1 a2 a3 a4 => zA_n (by omega))
theorem BK.mset {M M' : Int} {b : Nat} {a : Int → Int} {x : Int} {D : Mem} (h : BK M D b a) (hw : WA M' (zA a 3 x)) : BK M' (zU D b 8 x) b (zA a 3 x) := by
  have e : ∀ j, j ≠ 3 → zA a 3 x j = a j := fun j q => zA_n q
  exact h.mk' (fun o ho => zU_rw (by omega) ho) (ZB.mk' (h.2.1.l.of (zU_ne (by omega)) (zU_ne (by omega)) h.2.2.1.n0.2 fun j hj => e j (by omega)) (h.2.1.g.of (zU_ne (by omega)) (zU_ne (by omega)) h.2.2.1.n1.2 fun j hj => e j (by omega)) (h.2.1.w.of (zU_ne (by omega)) (zU_ne (by omega)) h.2.2.1.n2.2 fun j hj => e j (by omega)) (by rw [zU_s, zA_s]) (h.2.1.s.of (zU_ne (by omega)) (zU_ne (by omega)) h.2.2.1.n4.2 fun j hj => e j (by omega)) (h.2.1.n.of (zU_ne (by omega)) (zU_ne (by omega)) h.2.2.1.n5.2 fun j hj => e j (by omega)) (h.2.1.k.of (zU_ne (by omega)) (zU_ne (by omega)) h.2.2.1.n6.2 fun j hj => e j (by omega)) (h.2.1.p.of h.2.2.1 (zU_ne (by omega)) (zU_ne (by omega)) (e 0 (by omega)) (e 1 (by omega)) fun j _ _ => e j (by omega))) hw (fun o o0 o1 => zU_ne (by omega))
theorem c_addLadder {M : Int} {b : Nat} {a : Int → Int} {c : Int} {D : Mem} {P : Int → Mem → Prop} (hb : zBk b) (h : BK M D b a) (h1 : a 0 < 6) (hc : 0 ≤ c ∧ c < 16) (h2 : a 120 = 0) (hP : ∀ D', Fr b (b + 22) D D' → BK M D' b (sAddL a c) → P (a 0) D') : zC miX0_addLadder [zr b, zi c] D P := by
  have n0 := h.2.2.1.n0
  refine e_X0_addLadder ?_
  simp only [tX0_addLadder_0, w_ic, w_lc, w_lds, w_ild, w_lld, w_ald, w_ist, w_lst, w_ast, w_iinc, w_iadd, w_isub, w_imul, w_idiv, w_irem, w_iand, w_ior, w_ixor, w_ishl, w_ishr, w_iushr, w_ineg, w_ladd, w_lsub, w_lmul, w_ldiv, w_lrem, w_lcmp, w_i2l, w_l2i, w_dup, w_pop, w_dup2, w_ieq, w_zeq, w_ine, w_zne, w_ilt, w_zlt, w_ige, w_zge, w_igt, w_zgt, w_ile, w_zle, w_cut, w_tsw, zsw, w_iret, w_zret, w_lret, w_vret, w_nret, w_getI, w_getJ, w_getR, w_putI, w_putZ, w_putJ, w_iald, w_zald, w_iast, w_zast, w_alen, w_sI, w_sJ, w_sV, w_vI, w_vJ, w_vV, w_tI, w_mmax, w_mmin, w_mabs, w_lmax, w_acopy, gL, sL, kl_i, kl_l, kl_r, kl_s, kl_m, qI_i, qJ_l, qA_r, qA_s, pI_i, pJ_l, pA_r, pS_s, pM_m, pV_v, c1_i, c1_r, c1_s, c1_m, cS_0, cS_i, cS_l, cS_r, cS_s, cS_m, pN, z_rc_r, zE1, zE2, zE3, true_and, and_true, Nat.zero_add, Nat.reduceAdd, Nat.reduceLeDiff, true_or, or_true, hb.o, hb.fr0, hb.zf0, hb.r0.o]
  refine c_Rows_add hb.r0 h.1.1 (by rw [h.2.1.1.1]; exact h1) (by omega) fun D' d1 d2 d3 d4 d5 => ?_
  rw [h.2.1.1.1]
  have n := fun j p q r => sAddL_n (a := a) (c := c) (j := j) n0.1 h1 p q r
  have wa := sAddL_wa h.2.2.1 h1 hc h2
  refine hP D' (fun o ho => d1 o (by omega) (by omega)) ?_
  refine h.mk' (fun o ho => ?_) (ZB.mk' ?_ (h.2.1.g.of (d1 _ (by omega) (by omega)) (d1 _ (by omega) (by omega)) h.2.2.1.n1.2 fun j hj => n j (by omega) (by omega) (by omega)) (h.2.1.w.of (d1 _ (by omega) (by omega)) (d1 _ (by omega) (by omega)) h.2.2.1.n2.2 fun j hj => n j (by omega) (by omega) (by omega)) (by rw [d1 _ (by omega) (by omega), n 3 (by omega) (by omega) (by omega)]; exact h.2.1.m) (h.2.1.s.of (d1 _ (by omega) (by omega)) (d1 _ (by omega) (by omega)) h.2.2.1.n4.2 fun j hj => n j (by omega) (by omega) (by omega)) (h.2.1.n.of (d1 _ (by omega) (by omega)) (d1 _ (by omega) (by omega)) h.2.2.1.n5.2 fun j hj => n j (by omega) (by omega) (by omega)) (h.2.1.k.of (d1 _ (by omega) (by omega)) (d1 _ (by omega) (by omega)) h.2.2.1.n6.2 fun j hj => n j (by omega) (by omega) (by omega)) ?_) wa (fun o o0 o1 => d1 o (by omega) (by omega))
  · by_cases q : o = b + 1
    · subst q; exact ⟨d2 0 (by decide), d2 1 (by decide)⟩
    · rw [d1 o q (by unfold isRw at ho; omega)]; exact ⟨rfl, rfl⟩
  · refine zPc.add h.2.1.l d3 (fun j j0 j1 => ?_) (by omega) d5 zA_s (fun k c k0 k1 c0 c1 => n _ (by omega) (by omega) (by omega))
    refine (d4 j j0 j1).trans ?_
    rcases (by omega : j = 0 ∨ j = 1) with q | q
    · subst q
      show c = sAddL a c (4 + 6 * 0 + a 0)
      unfold sAddL
      rw [zA_n (by omega), zA_n (by omega), show 4 + 6 * 0 + a 0 = 4 + a 0 by omega, zA_s]
    · subst q
      show 1 = sAddL a c (4 + 6 * 1 + a 0)
      unfold sAddL
      rw [zA_n (by omega), show 4 + 6 * 1 + a 0 = 10 + a 0 by omega, zA_s]
  · have e120 : sAddL a c 120 = 0 := by rw [n 120 (by omega) (by omega) (by omega)]; exact h2
    exact zPp.nil (by rw [d1 _ (by omega) (by omega), h.2.1.p.1]; exact h2) e120
theorem c_addGoer {M : Int} {b : Nat} {a : Int → Int} {k hm g : Int} {D : Mem} {P : Int → Mem → Prop} (hb : zBk b) (h : BK M D b a) (h1 : a 1 < 6) (hk : 0 ≤ k ∧ k < 6) (hh : inC hm) (hg : inC g) (h2 : a 120 = 0) (hP : ∀ D', Fr b (b + 22) D D' → BK M D' b (sAddG a k hm g) → P (a 1) D') : zC miX0_addGoer [zr b, zi k, zi hm, zi g] D P := by
  have n0 := h.2.2.1.n1
  refine e_X0_addGoer ?_
  simp only [tX0_addGoer_0, w_ic, w_lc, w_lds, w_ild, w_lld, w_ald, w_ist, w_lst, w_ast, w_iinc, w_iadd, w_isub, w_imul, w_idiv, w_irem, w_iand, w_ior, w_ixor, w_ishl, w_ishr, w_iushr, w_ineg, w_ladd, w_lsub, w_lmul, w_ldiv, w_lrem, w_lcmp, w_i2l, w_l2i, w_dup, w_pop, w_dup2, w_ieq, w_zeq, w_ine, w_zne, w_ilt, w_zlt, w_ige, w_zge, w_igt, w_zgt, w_ile, w_zle, w_cut, w_tsw, zsw, w_iret, w_zret, w_lret, w_vret, w_nret, w_getI, w_getJ, w_getR, w_putI, w_putZ, w_putJ, w_iald, w_zald, w_iast, w_zast, w_alen, w_sI, w_sJ, w_sV, w_vI, w_vJ, w_vV, w_tI, w_mmax, w_mmin, w_mabs, w_lmax, w_acopy, gL, sL, kl_i, kl_l, kl_r, kl_s, kl_m, qI_i, qJ_l, qA_r, qA_s, pI_i, pJ_l, pA_r, pS_s, pM_m, pV_v, c1_i, c1_r, c1_s, c1_m, cS_0, cS_i, cS_l, cS_r, cS_s, cS_m, pN, z_rc_r, zE1, zE2, zE3, true_and, and_true, Nat.zero_add, Nat.reduceAdd, Nat.reduceLeDiff, true_or, or_true, hb.o, hb.fr1, hb.zf1, hb.r1.o]
  refine c_Rows_add hb.r1 h.1.2.1 (by rw [h.2.1.1.2.1]; exact h1) (by omega) fun D' d1 d2 d3 d4 d5 => ?_
  rw [h.2.1.1.2.1]
  have n : ∀ j, j ≠ 1 → (j < 16 ∨ 46 ≤ j) → sAddG a k hm g j = a j := fun j p q => sAddG_n (a := a) (k := k) (h := hm) (g := g) (j := j) p (by omega) (by omega) (by omega) (by omega) (by omega)
  have wa := sAddG_wa h.2.2.1 h1 hk hh hg h2
  refine hP D' (fun o ho => d1 o (by omega) (by omega)) ?_
  refine h.mk' (fun o ho => ?_) (ZB.mk' (h.2.1.l.of (d1 _ (by omega) (by omega)) (d1 _ (by omega) (by omega)) h.2.2.1.n0.2 fun j hj => n j (by omega) (by omega)) ?_ (h.2.1.w.of (d1 _ (by omega) (by omega)) (d1 _ (by omega) (by omega)) h.2.2.1.n2.2 fun j hj => n j (by omega) (by omega)) (by rw [d1 _ (by omega) (by omega), n 3 (by omega) (by omega)]; exact h.2.1.m) (h.2.1.s.of (d1 _ (by omega) (by omega)) (d1 _ (by omega) (by omega)) h.2.2.1.n4.2 fun j hj => n j (by omega) (by omega)) (h.2.1.n.of (d1 _ (by omega) (by omega)) (d1 _ (by omega) (by omega)) h.2.2.1.n5.2 fun j hj => n j (by omega) (by omega)) (h.2.1.k.of (d1 _ (by omega) (by omega)) (d1 _ (by omega) (by omega)) h.2.2.1.n6.2 fun j hj => n j (by omega) (by omega)) ?_) wa (fun o o0 o1 => d1 o (by omega) (by omega))
  · by_cases q : o = b + 4
    · subst q; exact ⟨d2 0 (by decide), d2 1 (by decide)⟩
    · rw [d1 o q (by unfold isRw at ho; omega)]; exact ⟨rfl, rfl⟩
  · obtain ⟨e1, e2, e3, e4, e5, e6⟩ := sAddG_e (a := a) (k := k) (h := hm) (g := g) n0.1 h1
    refine zPc.add h.2.1.g d3 (fun j j0 j1 => ?_) (by omega) d5 e1 (fun k c k0 k1 c0 c1 => sAddG_n (by omega) (by omega) (by omega) (by omega) (by omega) (by omega))
    refine (d4 j j0 j1).trans ?_
    rcases (by omega : j = 0 ∨ j = 1 ∨ j = 2 ∨ j = 3 ∨ j = 4) with q | q | q | q | q
    · subst q
      show k = sAddG a k hm g (16 + 6 * 0 + a 1)
      rw [show 16 + 6 * 0 + a 1 = 16 + a 1 by omega, e2]
    · subst q
      show hm = sAddG a k hm g (16 + 6 * 1 + a 1)
      rw [show 16 + 6 * 1 + a 1 = 22 + a 1 by omega, e3]
    · subst q
      show g = sAddG a k hm g (16 + 6 * 2 + a 1)
      rw [show 16 + 6 * 2 + a 1 = 28 + a 1 by omega, e4]
    · subst q
      show hm = sAddG a k hm g (16 + 6 * 3 + a 1)
      rw [show 16 + 6 * 3 + a 1 = 34 + a 1 by omega, e5]
    · subst q
      show 0 = sAddG a k hm g (16 + 6 * 4 + a 1)
      rw [show 16 + 6 * 4 + a 1 = 40 + a 1 by omega, e6]
  · have e120 : sAddG a k hm g 120 = 0 := by rw [n 120 (by omega) (by omega)]; exact h2
    exact zPp.nil (by rw [d1 _ (by omega) (by omega), h.2.1.p.1]; exact h2) e120
theorem c_addWindow {M : Int} {b : Nat} {a : Int → Int} {k c : Int} {D : Mem} {P : Int → Mem → Prop} (hb : zBk b) (h : BK M D b a) (h1 : a 2 < 4) (hk : 0 ≤ k ∧ k < 6) (hc : inC c) (h2 : a 120 = 0) (hP : ∀ D', Fr b (b + 22) D D' → BK M D' b (sAddW a k c) → P (a 2) D') : zC miX0_addWindow [zr b, zi k, zi c] D P := by
  have n0 := h.2.2.1.n2
  refine e_X0_addWindow ?_
  simp only [tX0_addWindow_0, w_ic, w_lc, w_lds, w_ild, w_lld, w_ald, w_ist, w_lst, w_ast, w_iinc, w_iadd, w_isub, w_imul, w_idiv, w_irem, w_iand, w_ior, w_ixor, w_ishl, w_ishr, w_iushr, w_ineg, w_ladd, w_lsub, w_lmul, w_ldiv, w_lrem, w_lcmp, w_i2l, w_l2i, w_dup, w_pop, w_dup2, w_ieq, w_zeq, w_ine, w_zne, w_ilt, w_zlt, w_ige, w_zge, w_igt, w_zgt, w_ile, w_zle, w_cut, w_tsw, zsw, w_iret, w_zret, w_lret, w_vret, w_nret, w_getI, w_getJ, w_getR, w_putI, w_putZ, w_putJ, w_iald, w_zald, w_iast, w_zast, w_alen, w_sI, w_sJ, w_sV, w_vI, w_vJ, w_vV, w_tI, w_mmax, w_mmin, w_mabs, w_lmax, w_acopy, gL, sL, kl_i, kl_l, kl_r, kl_s, kl_m, qI_i, qJ_l, qA_r, qA_s, pI_i, pJ_l, pA_r, pS_s, pM_m, pV_v, c1_i, c1_r, c1_s, c1_m, cS_0, cS_i, cS_l, cS_r, cS_s, cS_m, pN, z_rc_r, zE1, zE2, zE3, true_and, and_true, Nat.zero_add, Nat.reduceAdd, Nat.reduceLeDiff, true_or, or_true, hb.o, hb.fr2, hb.zf2, hb.r2.o]
  refine c_Rows_add hb.r2 h.1.2.2.1 (by rw [h.2.1.1.2.2.1]; exact h1) (by omega) fun D' d1 d2 d3 d4 d5 => ?_
  rw [h.2.1.1.2.2.1]
  have n := fun j p q r => sAddW_n (a := a) (k := k) (c := c) (j := j) p q r
  have wa := sAddW_wa h.2.2.1 h1 hk hc h2
  refine hP D' (fun o ho => d1 o (by omega) (by omega)) ?_
  refine h.mk' (fun o ho => ?_) (ZB.mk' (h.2.1.l.of (d1 _ (by omega) (by omega)) (d1 _ (by omega) (by omega)) h.2.2.1.n0.2 fun j hj => n j (by omega) (by omega) (by omega)) (h.2.1.g.of (d1 _ (by omega) (by omega)) (d1 _ (by omega) (by omega)) h.2.2.1.n1.2 fun j hj => n j (by omega) (by omega) (by omega)) ?_ (by rw [d1 _ (by omega) (by omega), n 3 (by omega) (by omega) (by omega)]; exact h.2.1.m) (h.2.1.s.of (d1 _ (by omega) (by omega)) (d1 _ (by omega) (by omega)) h.2.2.1.n4.2 fun j hj => n j (by omega) (by omega) (by omega)) (h.2.1.n.of (d1 _ (by omega) (by omega)) (d1 _ (by omega) (by omega)) h.2.2.1.n5.2 fun j hj => n j (by omega) (by omega) (by omega)) (h.2.1.k.of (d1 _ (by omega) (by omega)) (d1 _ (by omega) (by omega)) h.2.2.1.n6.2 fun j hj => n j (by omega) (by omega) (by omega)) ?_) wa (fun o o0 o1 => d1 o (by omega) (by omega))
  · by_cases q : o = b + 7
    · subst q; exact ⟨d2 0 (by decide), d2 1 (by decide)⟩
    · rw [d1 o q (by unfold isRw at ho; omega)]; exact ⟨rfl, rfl⟩
  · refine zPc.add h.2.1.w d3 (fun j j0 j1 => ?_) (by omega) d5 zA_s (fun k c k0 k1 c0 c1 => n _ (by omega) (by omega) (by omega))
    refine (d4 j j0 j1).trans ?_
    rcases (by omega : j = 0 ∨ j = 1) with q | q
    · subst q
      show k = sAddW a k c (46 + 4 * 0 + a 2)
      unfold sAddW
      rw [zA_n (by omega), zA_n (by omega), show 46 + 4 * 0 + a 2 = 46 + a 2 by omega, zA_s]
    · subst q
      show c = sAddW a k c (46 + 4 * 1 + a 2)
      unfold sAddW
      rw [zA_n (by omega), show 46 + 4 * 1 + a 2 = 50 + a 2 by omega, zA_s]
  · have e120 : sAddW a k c 120 = 0 := by rw [n 120 (by omega) (by omega) (by omega)]; exact h2
    exact zPp.nil (by rw [d1 _ (by omega) (by omega), h.2.1.p.1]; exact h2) e120
