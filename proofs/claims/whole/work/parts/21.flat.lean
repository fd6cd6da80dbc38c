/-! ===== 21: what the calls do to a back, in flat numbers ===== -/
def W0 (a : Int → Int) : Prop := (0 ≤ a 0 ∧ a 0 ≤ 6) ∧ ∀ k, 0 ≤ k → k < a 0 → (0 ≤ a (4 + k) ∧ a (4 + k) < 16) ∧ z01 (a (10 + k))
def W1 (a : Int → Int) : Prop := (0 ≤ a 1 ∧ a 1 ≤ 6) ∧ ∀ i, 0 ≤ i → i < a 1 → (0 ≤ a (16 + i) ∧ a (16 + i) < 6) ∧ inC (a (22 + i)) ∧ inC (a (28 + i)) ∧ inC (a (34 + i)) ∧ z01 (a (40 + i))
def W2 (a : Int → Int) : Prop := (0 ≤ a 2 ∧ a 2 ≤ 4) ∧ ∀ k, 0 ≤ k → k < a 2 → (0 ≤ a (46 + k) ∧ a (46 + k) < 6) ∧ inC (a (50 + k))
def W4 (n : Int) (a : Int → Int) : Prop := (0 ≤ a 54 ∧ a 54 ≤ 5) ∧ ∀ s, 0 ≤ s → s < a 54 → (0 ≤ a (55 + 3 * s) ∧ a (55 + 3 * s) < n) ∧ (0 ≤ a (56 + 3 * s) ∧ a (56 + 3 * s) ≤ 30) ∧ (1 ≤ a (57 + 3 * s) ∧ a (57 + 3 * s) ≤ 20)
def W5 (n : Int) (a : Int → Int) : Prop := (0 ≤ a 70 ∧ a 70 ≤ 6) ∧ ∀ k, 0 ≤ k → k < a 70 → (0 ≤ a (71 + 4 * k) ∧ a (71 + 4 * k) < n) ∧ (0 ≤ a (72 + 4 * k) ∧ a (72 + 4 * k) ≤ 4) ∧ (0 ≤ a (73 + 4 * k) ∧ a (73 + 4 * k) ≤ 99) ∧ (0 ≤ a (74 + 4 * k) ∧ a (74 + 4 * k) ≤ 20)
def W6 (n : Int) (a : Int → Int) : Prop := (0 ≤ a 95 ∧ a 95 ≤ 6) ∧ ∀ k, 0 ≤ k → k < a 95 → (0 ≤ a (96 + 4 * k) ∧ a (96 + 4 * k) < n) ∧ (0 ≤ a (97 + 4 * k) ∧ a (97 + 4 * k) ≤ 20) ∧ (0 ≤ a (98 + 4 * k) ∧ a (98 + 4 * k) ≤ 7) ∧ z01 (a (99 + 4 * k))
def W7 (M n0 n1 : Int) (a : Int → Int) : Prop := (0 ≤ a 120 ∧ a 120 ≤ 8) ∧ ∀ u, 0 ≤ u → u < a 120 → (0 ≤ a (121 + 19 * u) ∧ a (121 + 19 * u) ≤ M) ∧ (∀ k, 0 ≤ k → k < n0 → z01 (a (122 + 19 * u + k))) ∧ (∀ i, 0 ≤ i → i < n1 → inC (a (128 + 19 * u + i)) ∧ z01 (a (134 + 19 * u + i)))
theorem WA.w0 {M : Int} {a : Int → Int} (h : WA M a) : W0 a := ⟨h.n0, h.2.1⟩
theorem WA.w1 {M : Int} {a : Int → Int} (h : WA M a) : W1 a := ⟨h.n1, h.2.2.1⟩
theorem WA.w2 {M : Int} {a : Int → Int} (h : WA M a) : W2 a := ⟨h.n2, h.2.2.2.1⟩
theorem WA.w4 {M : Int} {a : Int → Int} (h : WA M a) : W4 (a 2) a := ⟨h.n4, h.2.2.2.2.1⟩
theorem WA.w5 {M : Int} {a : Int → Int} (h : WA M a) : W5 (a 1) a := ⟨h.n5, h.2.2.2.2.2.1⟩
theorem WA.w6 {M : Int} {a : Int → Int} (h : WA M a) : W6 (a 2) a := ⟨h.n6, h.2.2.2.2.2.2.1⟩
theorem WA.w7 {M : Int} {a : Int → Int} (h : WA M a) : W7 M (a 0) (a 1) a := ⟨h.n7, h.2.2.2.2.2.2.2⟩
theorem WA.mk' {M : Int} {a : Int → Int} (h0 : W0 a) (h1 : W1 a) (h2 : W2 a) (h3 : 0 ≤ a 3 ∧ a 3 ≤ M) (h4 : W4 (a 2) a) (h5 : W5 (a 1) a) (h6 : W6 (a 2) a) (h7 : W7 M (a 0) (a 1) a) : WA M a :=
  ⟨⟨h0.1, h1.1, h2.1, h3, h4.1, h5.1, h6.1, h7.1⟩, h0.2, h1.2, h2.2, h4.2, h5.2, h6.2, h7.2⟩
theorem W0.of {a a' : Int → Int} (h : W0 a) (e : ∀ j, j = 0 ∨ (4 ≤ j ∧ j < 16) → a' j = a j) : W0 a' := by
  obtain ⟨h0, h1⟩ := h
  refine ⟨by rw [e 0 (by omega)]; exact h0, fun k k0 k1 => ?_⟩
  rw [e 0 (by omega)] at k1
  rw [e (4 + k) (by omega), e (10 + k) (by omega)]
  exact h1 k k0 k1
theorem W1.of {a a' : Int → Int} (h : W1 a) (e : ∀ j, j = 1 ∨ (16 ≤ j ∧ j < 46) → a' j = a j) : W1 a' := by
  obtain ⟨h0, h1⟩ := h
  refine ⟨by rw [e 1 (by omega)]; exact h0, fun k k0 k1 => ?_⟩
  rw [e 1 (by omega)] at k1
  rw [e (16 + k) (by omega), e (22 + k) (by omega), e (28 + k) (by omega), e (34 + k) (by omega), e (40 + k) (by omega)]
  exact h1 k k0 k1
theorem W2.of {a a' : Int → Int} (h : W2 a) (e : ∀ j, j = 2 ∨ (46 ≤ j ∧ j < 54) → a' j = a j) : W2 a' := by
  obtain ⟨h0, h1⟩ := h
  refine ⟨by rw [e 2 (by omega)]; exact h0, fun k k0 k1 => ?_⟩
  rw [e 2 (by omega)] at k1
  rw [e (46 + k) (by omega), e (50 + k) (by omega)]
  exact h1 k k0 k1
theorem W4.of {n n' : Int} {a a' : Int → Int} (h : W4 n a) (hn : n ≤ n') (e : ∀ j, (54 ≤ j ∧ j < 70) → a' j = a j) : W4 n' a' := by
  obtain ⟨h0, h1⟩ := h
  refine ⟨by rw [e 54 (by omega)]; exact h0, fun k k0 k1 => ?_⟩
  rw [e 54 (by omega)] at k1
  rw [e (55 + 3 * k) (by omega), e (56 + 3 * k) (by omega), e (57 + 3 * k) (by omega)]
  have := h1 k k0 k1
  exact ⟨⟨this.1.1, by omega⟩, this.2⟩
theorem W5.of {n n' : Int} {a a' : Int → Int} (h : W5 n a) (hn : n ≤ n') (e : ∀ j, (70 ≤ j ∧ j < 95) → a' j = a j) : W5 n' a' := by
  obtain ⟨h0, h1⟩ := h
  refine ⟨by rw [e 70 (by omega)]; exact h0, fun k k0 k1 => ?_⟩
  rw [e 70 (by omega)] at k1
  rw [e (71 + 4 * k) (by omega), e (72 + 4 * k) (by omega), e (73 + 4 * k) (by omega), e (74 + 4 * k) (by omega)]
  have := h1 k k0 k1
  exact ⟨⟨this.1.1, by omega⟩, this.2⟩
theorem W6.of {n n' : Int} {a a' : Int → Int} (h : W6 n a) (hn : n ≤ n') (e : ∀ j, (95 ≤ j ∧ j < 120) → a' j = a j) : W6 n' a' := by
  obtain ⟨h0, h1⟩ := h
  refine ⟨by rw [e 95 (by omega)]; exact h0, fun k k0 k1 => ?_⟩
  rw [e 95 (by omega)] at k1
  rw [e (96 + 4 * k) (by omega), e (97 + 4 * k) (by omega), e (98 + 4 * k) (by omega), e (99 + 4 * k) (by omega)]
  have := h1 k k0 k1
  exact ⟨⟨this.1.1, by omega⟩, this.2⟩
theorem W7.of {M n0 n1 : Int} {a a' : Int → Int} (h : W7 M n0 n1 a) (hn0 : n0 ≤ 6) (hn1 : n1 ≤ 6) (e : ∀ j, (120 ≤ j ∧ j < 273) → a' j = a j) : W7 M n0 n1 a' := by
  obtain ⟨h0, h1⟩ := h
  refine ⟨by rw [e 120 (by omega)]; exact h0, fun u u0 u1 => ?_⟩
  rw [e 120 (by omega)] at u1
  have := h1 u u0 u1
  refine ⟨by rw [e _ (by omega)]; exact this.1, fun k k0 k1 => ?_, fun k k0 k1 => ?_⟩
  · rw [e _ (by omega)]; exact this.2.1 k k0 k1
  · rw [e _ (by omega), e _ (by omega)]; exact this.2.2 k k0 k1
theorem W7.nil {M n0 n1 : Int} {a : Int → Int} (h : a 120 = 0) : W7 M n0 n1 a := ⟨by omega, fun u u0 u1 => by omega⟩
-- what each call does
def sAddL (a : Int → Int) (c : Int) : Int → Int := zA (zA (zA a (4 + a 0) c) (10 + a 0) 1) 0 (a 0 + 1)
def sAddG (a : Int → Int) (k h g : Int) : Int → Int := zA (zA (zA (zA (zA (zA a (16 + a 1) k) (22 + a 1) h) (28 + a 1) g) (34 + a 1) h) (40 + a 1) 0) 1 (a 1 + 1)
def sAddW (a : Int → Int) (k c : Int) : Int → Int := zA (zA (zA a (46 + a 2) k) (50 + a 2) c) 2 (a 2 + 1)
def sAddS (a : Int → Int) (k m x : Int) : Int → Int := zA (zA (zA (zA a (55 + 3 * a 54) k) (56 + 3 * a 54) m) (57 + 3 * a 54) x) 54 (a 54 + 1)
def sAddN (a : Int → Int) (k f m x : Int) : Int → Int := zA (zA (zA (zA (zA a (71 + 4 * a 70) k) (72 + 4 * a 70) f) (73 + 4 * a 70) m) (74 + 4 * a 70) x) 70 (a 70 + 1)
def sAddM (a : Int → Int) (k x d v : Int) : Int → Int := zA (zA (zA (zA (zA a (96 + 4 * a 95) k) (97 + 4 * a 95) x) (98 + 4 * a 95) d) (99 + 4 * a 95) v) 95 (a 95 + 1)
/-- what is remembered stands at t -/
def sRec (a : Int → Int) (t : Int) : Int → Int := fun j => if j = t then a 3 else if t + 1 ≤ j ∧ j < t + 7 then a (9 + (j - t)) else if t + 7 ≤ j ∧ j < t + 13 then a (27 + (j - t)) else if t + 13 ≤ j ∧ j < t + 19 then a (27 + (j - t)) else a j
def sShift (a : Int → Int) : Int → Int := fun j => if 121 ≤ j ∧ j < 254 then a (j + 19) else if j = 120 then 7 else a j
def sMind (a : Int → Int) : Int → Int := zA (sRec a (121 + 19 * a 120)) 120 (a 120 + 1)
def sMinds (a : Int → Int) : Int → Int := if a 120 = 8 then sMind (sShift a) else sMind a
def sUndo (a : Int → Int) : Int → Int := fun j => if j = 3 then a (102 + 19 * a 120) else if 10 ≤ j ∧ j < 16 then a (93 + 19 * a 120 + j) else if 34 ≤ j ∧ j < 40 then a (75 + 19 * a 120 + j) else if 40 ≤ j ∧ j < 46 then a (75 + 19 * a 120 + j) else if j = 120 then a 120 - 1 else a j
theorem sAddL_n {a : Int → Int} {c j : Int} (h0 : 0 ≤ a 0) (h1 : a 0 < 6) (hj : j ≠ 0) (hj2 : j ≠ 4 + a 0) (hj3 : j ≠ 10 + a 0) : sAddL a c j = a j := by
  unfold sAddL
  rw [zA_n hj, zA_n hj3, zA_n hj2]
theorem sAddL_wa {M : Int} {a : Int → Int} {c : Int} (h : WA M a) (h1 : a 0 < 6) (hc : 0 ≤ c ∧ c < 16) (h2 : a 120 = 0) : WA M (sAddL a c) := by
  have n0 := h.n0
  have n := fun j p q r => sAddL_n (a := a) (c := c) (j := j) n0.1 h1 p q r
  have e0 : sAddL a c 0 = a 0 + 1 := zA_s
  refine WA.mk' ⟨by omega, fun k k0 k1 => ?_⟩ (h.w1.of fun j hj => n j (by omega) (by omega) (by omega)) (h.w2.of fun j hj => n j (by omega) (by omega) (by omega)) (by rw [n 3 (by omega) (by omega) (by omega)]; exact h.n3) (h.w4.of (by rw [n 2 (by omega) (by omega) (by omega)]; omega) fun j hj => n j (by omega) (by omega) (by omega)) (h.w5.of (by rw [n 1 (by omega) (by omega) (by omega)]; omega) fun j hj => n j (by omega) (by omega) (by omega)) (h.w6.of (by rw [n 2 (by omega) (by omega) (by omega)]; omega) fun j hj => n j (by omega) (by omega) (by omega)) (W7.nil (by rw [n 120 (by omega) (by omega) (by omega)]; exact h2))
  rw [e0] at k1
  by_cases e : k = a 0
  · have e4 : sAddL a c (4 + k) = c := by unfold sAddL; rw [zA_n (by omega), zA_n (by omega), e, zA_s]
    have e10 : sAddL a c (10 + k) = 1 := by unfold sAddL; rw [zA_n (by omega), e, zA_s]
    rw [e4, e10]
    exact ⟨hc, Or.inr rfl⟩
  · rw [n (4 + k) (by omega) (by omega) (by omega), n (10 + k) (by omega) (by omega) (by omega)]
    exact h.w0.2 k k0 (by omega)
theorem sAddG_n {a : Int → Int} {k h g j : Int} (hj : j ≠ 1) (hj2 : j ≠ 16 + a 1) (hj3 : j ≠ 22 + a 1) (hj4 : j ≠ 28 + a 1) (hj5 : j ≠ 34 + a 1) (hj6 : j ≠ 40 + a 1) : sAddG a k h g j = a j := by
  unfold sAddG
  rw [zA_n hj, zA_n hj6, zA_n hj5, zA_n hj4, zA_n hj3, zA_n hj2]
theorem sAddG_e {a : Int → Int} {k h g : Int} (h0 : 0 ≤ a 1) (h1 : a 1 < 6) : sAddG a k h g 1 = a 1 + 1 ∧ sAddG a k h g (16 + a 1) = k ∧ sAddG a k h g (22 + a 1) = h ∧ sAddG a k h g (28 + a 1) = g ∧ sAddG a k h g (34 + a 1) = h ∧ sAddG a k h g (40 + a 1) = 0 := by
  unfold sAddG
  refine ⟨zA_s, ?_, ?_, ?_, ?_, ?_⟩
  · rw [zA_n (by omega), zA_n (by omega), zA_n (by omega), zA_n (by omega), zA_n (by omega), zA_s]
  · rw [zA_n (by omega), zA_n (by omega), zA_n (by omega), zA_n (by omega), zA_s]
  · rw [zA_n (by omega), zA_n (by omega), zA_n (by omega), zA_s]
  · rw [zA_n (by omega), zA_n (by omega), zA_s]
  · rw [zA_n (by omega), zA_s]
theorem sAddG_wa {M : Int} {a : Int → Int} {k h g : Int} (hw : WA M a) (h1 : a 1 < 6) (hk : 0 ≤ k ∧ k < 6) (hh : inC h) (hg : inC g) (h2 : a 120 = 0) : WA M (sAddG a k h g) := by
  have n1 := hw.n1
  have n := fun j p1 p2 p3 p4 p5 p6 => sAddG_n (a := a) (k := k) (h := h) (g := g) (j := j) p1 p2 p3 p4 p5 p6
  obtain ⟨e1, e2, e3, e4, e5, e6⟩ := sAddG_e (k := k) (h := h) (g := g) n1.1 h1
  refine WA.mk' (hw.w0.of fun j hj => n j (by omega) (by omega) (by omega) (by omega) (by omega) (by omega)) ⟨by omega, fun i k0 k1 => ?_⟩ (hw.w2.of fun j hj => n j (by omega) (by omega) (by omega) (by omega) (by omega) (by omega)) (by rw [n 3 (by omega) (by omega) (by omega) (by omega) (by omega) (by omega)]; exact hw.n3) (hw.w4.of (by rw [n 2 (by omega) (by omega) (by omega) (by omega) (by omega) (by omega)]; omega) fun j hj => n j (by omega) (by omega) (by omega) (by omega) (by omega) (by omega)) (hw.w5.of (by rw [e1]; omega) fun j hj => n j (by omega) (by omega) (by omega) (by omega) (by omega) (by omega)) (hw.w6.of (by rw [n 2 (by omega) (by omega) (by omega) (by omega) (by omega) (by omega)]; omega) fun j hj => n j (by omega) (by omega) (by omega) (by omega) (by omega) (by omega)) (W7.nil (by rw [n 120 (by omega) (by omega) (by omega) (by omega) (by omega) (by omega)]; exact h2))
  rw [e1] at k1
  by_cases e : i = a 1
  · rw [e, e2, e3, e4, e5, e6]
    exact ⟨hk, hh, hg, hh, Or.inl rfl⟩
  · rw [n (16 + i) (by omega) (by omega) (by omega) (by omega) (by omega) (by omega), n (22 + i) (by omega) (by omega) (by omega) (by omega) (by omega) (by omega), n (28 + i) (by omega) (by omega) (by omega) (by omega) (by omega) (by omega), n (34 + i) (by omega) (by omega) (by omega) (by omega) (by omega) (by omega), n (40 + i) (by omega) (by omega) (by omega) (by omega) (by omega) (by omega)]
    exact hw.w1.2 i k0 (by omega)
theorem sAddW_n {a : Int → Int} {k c j : Int} (hj : j ≠ 2) (hj2 : j ≠ 46 + a 2) (hj3 : j ≠ 50 + a 2) : sAddW a k c j = a j := by
  unfold sAddW
  rw [zA_n hj, zA_n hj3, zA_n hj2]
theorem sAddW_wa {M : Int} {a : Int → Int} {k c : Int} (h : WA M a) (h1 : a 2 < 4) (hk : 0 ≤ k ∧ k < 6) (hc : inC c) (h2 : a 120 = 0) : WA M (sAddW a k c) := by
  have n2 := h.n2
  have n := fun j p q r => sAddW_n (a := a) (k := k) (c := c) (j := j) p q r
  have e0 : sAddW a k c 2 = a 2 + 1 := zA_s
  refine WA.mk' (h.w0.of fun j hj => n j (by omega) (by omega) (by omega)) (h.w1.of fun j hj => n j (by omega) (by omega) (by omega)) ⟨by omega, fun i k0 k1 => ?_⟩ (by rw [n 3 (by omega) (by omega) (by omega)]; exact h.n3) (h.w4.of (by rw [e0]; omega) fun j hj => n j (by omega) (by omega) (by omega)) (h.w5.of (by rw [n 1 (by omega) (by omega) (by omega)]; omega) fun j hj => n j (by omega) (by omega) (by omega)) (h.w6.of (by rw [e0]; omega) fun j hj => n j (by omega) (by omega) (by omega)) (W7.nil (by rw [n 120 (by omega) (by omega) (by omega)]; exact h2))
  rw [e0] at k1
  by_cases e : i = a 2
  · have e4 : sAddW a k c (46 + i) = k := by unfold sAddW; rw [zA_n (by omega), zA_n (by omega), e, zA_s]
    have e10 : sAddW a k c (50 + i) = c := by unfold sAddW; rw [zA_n (by omega), e, zA_s]
    rw [e4, e10]
    exact ⟨hk, hc⟩
  · rw [n (46 + i) (by omega) (by omega) (by omega), n (50 + i) (by omega) (by omega) (by omega)]
    exact h.w2.2 i k0 (by omega)
theorem sAddS_n {a : Int → Int} {k m x j : Int} (hj : j ≠ 54) (hj2 : j ≠ 55 + 3 * a 54) (hj3 : j ≠ 56 + 3 * a 54) (hj4 : j ≠ 57 + 3 * a 54) : sAddS a k m x j = a j := by
  unfold sAddS
  rw [zA_n hj, zA_n hj4, zA_n hj3, zA_n hj2]
theorem sAddS_e {a : Int → Int} {k m x : Int} (h0 : 0 ≤ a 54) : sAddS a k m x 54 = a 54 + 1 ∧ sAddS a k m x (55 + 3 * a 54) = k ∧ sAddS a k m x (56 + 3 * a 54) = m ∧ sAddS a k m x (57 + 3 * a 54) = x := by
  unfold sAddS
  refine ⟨zA_s, ?_, ?_, ?_⟩
  · rw [zA_n (by omega), zA_n (by omega), zA_n (by omega), zA_s]
  · rw [zA_n (by omega), zA_n (by omega), zA_s]
  · rw [zA_n (by omega), zA_s]
theorem sAddS_wa {M : Int} {a : Int → Int} {k m x : Int} (h : WA M a) (h1 : a 54 < 5) (hk : 0 ≤ k ∧ k < a 2) (hm : 0 ≤ m ∧ m ≤ 30) (hx : 1 ≤ x ∧ x ≤ 20) : WA M (sAddS a k m x) := by
  have n4 := h.n4
  have n := fun j p q r s => sAddS_n (a := a) (k := k) (m := m) (x := x) (j := j) p q r s
  obtain ⟨e0, e1, e2, e3⟩ := sAddS_e (k := k) (m := m) (x := x) n4.1
  have f2 := n 2 (by omega) (by omega) (by omega) (by omega)
  have f1 := n 1 (by omega) (by omega) (by omega) (by omega)
  have f0 := n 0 (by omega) (by omega) (by omega) (by omega)
  refine WA.mk' (h.w0.of fun j hj => n j (by omega) (by omega) (by omega) (by omega)) (h.w1.of fun j hj => n j (by omega) (by omega) (by omega) (by omega)) (h.w2.of fun j hj => n j (by omega) (by omega) (by omega) (by omega)) (by rw [n 3 (by omega) (by omega) (by omega) (by omega)]; exact h.n3) ⟨by omega, fun s k0 k1 => ?_⟩ (h.w5.of (by omega) fun j hj => n j (by omega) (by omega) (by omega) (by omega)) (h.w6.of (by omega) fun j hj => n j (by omega) (by omega) (by omega) (by omega)) (by rw [f0, f1]; exact h.w7.of h.n0.2 h.n1.2 fun j hj => n j (by omega) (by omega) (by omega) (by omega))
  rw [e0] at k1
  rw [f2]
  by_cases e : s = a 54
  · rw [e, e1, e2, e3]
    exact ⟨hk, hm, hx⟩
  · rw [n (55 + 3 * s) (by omega) (by omega) (by omega) (by omega), n (56 + 3 * s) (by omega) (by omega) (by omega) (by omega), n (57 + 3 * s) (by omega) (by omega) (by omega) (by omega)]
    exact h.w4.2 s k0 (by omega)
theorem sAddN_n {a : Int → Int} {k f m x j : Int} (hj : j ≠ 70) (hj2 : j < 71 + 4 * a 70 ∨ 74 + 4 * a 70 < j) : sAddN a k f m x j = a j := by
  unfold sAddN
  rw [zA_n hj, zA_n (by omega), zA_n (by omega), zA_n (by omega), zA_n (by omega)]
theorem sAddN_e {a : Int → Int} {k f m x : Int} (h0 : 0 ≤ a 70) : sAddN a k f m x 70 = a 70 + 1 ∧ sAddN a k f m x (71 + 4 * a 70) = k ∧ sAddN a k f m x (72 + 4 * a 70) = f ∧ sAddN a k f m x (73 + 4 * a 70) = m ∧ sAddN a k f m x (74 + 4 * a 70) = x := by
  unfold sAddN
  refine ⟨zA_s, ?_, ?_, ?_, ?_⟩
  · rw [zA_n (by omega), zA_n (by omega), zA_n (by omega), zA_n (by omega), zA_s]
  · rw [zA_n (by omega), zA_n (by omega), zA_n (by omega), zA_s]
  · rw [zA_n (by omega), zA_n (by omega), zA_s]
  · rw [zA_n (by omega), zA_s]
theorem sAddN_wa {M : Int} {a : Int → Int} {k f m x : Int} (h : WA M a) (h1 : a 70 < 6) (hk : 0 ≤ k ∧ k < a 1) (hf : 0 ≤ f ∧ f ≤ 4) (hm : 0 ≤ m ∧ m ≤ 99) (hx : 0 ≤ x ∧ x ≤ 20) : WA M (sAddN a k f m x) := by
  have n4 := h.n5
  have n := fun j p q => sAddN_n (a := a) (k := k) (f := f) (m := m) (x := x) (j := j) p q
  obtain ⟨e0, e1, e2, e3, e4⟩ := sAddN_e (k := k) (f := f) (m := m) (x := x) n4.1
  have f2 := n 2 (by omega) (by omega)
  have f1 := n 1 (by omega) (by omega)
  have f0 := n 0 (by omega) (by omega)
  refine WA.mk' (h.w0.of fun j hj => n j (by omega) (by omega)) (h.w1.of fun j hj => n j (by omega) (by omega)) (h.w2.of fun j hj => n j (by omega) (by omega)) (by rw [n 3 (by omega) (by omega)]; exact h.n3) (h.w4.of (by omega) fun j hj => n j (by omega) (by omega)) ⟨by omega, fun s k0 k1 => ?_⟩ (h.w6.of (by omega) fun j hj => n j (by omega) (by omega)) (by rw [f0, f1]; exact h.w7.of h.n0.2 h.n1.2 fun j hj => n j (by omega) (by omega))
  rw [e0] at k1
  rw [f1]
  by_cases e : s = a 70
  · rw [e, e1, e2, e3, e4]
    exact ⟨hk, hf, hm, hx⟩
  · rw [n (71 + 4 * s) (by omega) (by omega), n (72 + 4 * s) (by omega) (by omega), n (73 + 4 * s) (by omega) (by omega), n (74 + 4 * s) (by omega) (by omega)]
    exact h.w5.2 s k0 (by omega)
theorem sAddM_n {a : Int → Int} {k f m x j : Int} (hj : j ≠ 95) (hj2 : j < 96 + 4 * a 95 ∨ 99 + 4 * a 95 < j) : sAddM a k f m x j = a j := by
  unfold sAddM
  rw [zA_n hj, zA_n (by omega), zA_n (by omega), zA_n (by omega), zA_n (by omega)]
theorem sAddM_e {a : Int → Int} {k f m x : Int} (h0 : 0 ≤ a 95) : sAddM a k f m x 95 = a 95 + 1 ∧ sAddM a k f m x (96 + 4 * a 95) = k ∧ sAddM a k f m x (97 + 4 * a 95) = f ∧ sAddM a k f m x (98 + 4 * a 95) = m ∧ sAddM a k f m x (99 + 4 * a 95) = x := by
  unfold sAddM
  refine ⟨zA_s, ?_, ?_, ?_, ?_⟩
  · rw [zA_n (by omega), zA_n (by omega), zA_n (by omega), zA_n (by omega), zA_s]
  · rw [zA_n (by omega), zA_n (by omega), zA_n (by omega), zA_s]
  · rw [zA_n (by omega), zA_n (by omega), zA_s]
  · rw [zA_n (by omega), zA_s]
theorem sAddM_wa {M : Int} {a : Int → Int} {k f m x : Int} (h : WA M a) (h1 : a 95 < 6) (hk : 0 ≤ k ∧ k < a 2) (hf : 0 ≤ f ∧ f ≤ 20) (hm : 0 ≤ m ∧ m ≤ 7) (hx : z01 x) : WA M (sAddM a k f m x) := by
  have n4 := h.n6
  have n := fun j p q => sAddM_n (a := a) (k := k) (f := f) (m := m) (x := x) (j := j) p q
  obtain ⟨e0, e1, e2, e3, e4⟩ := sAddM_e (k := k) (f := f) (m := m) (x := x) n4.1
  have f2 := n 2 (by omega) (by omega)
  have f1 := n 1 (by omega) (by omega)
  have f0 := n 0 (by omega) (by omega)
  refine WA.mk' (h.w0.of fun j hj => n j (by omega) (by omega)) (h.w1.of fun j hj => n j (by omega) (by omega)) (h.w2.of fun j hj => n j (by omega) (by omega)) (by rw [n 3 (by omega) (by omega)]; exact h.n3) (h.w4.of (by omega) fun j hj => n j (by omega) (by omega)) (h.w5.of (by omega) fun j hj => n j (by omega) (by omega)) ⟨by omega, fun s k0 k1 => ?_⟩ (by rw [f0, f1]; exact h.w7.of h.n0.2 h.n1.2 fun j hj => n j (by omega) (by omega))
  rw [e0] at k1
  rw [f2]
  by_cases e : s = a 95
  · rw [e, e1, e2, e3, e4]
    exact ⟨hk, hf, hm, hx⟩
  · rw [n (96 + 4 * s) (by omega) (by omega), n (97 + 4 * s) (by omega) (by omega), n (98 + 4 * s) (by omega) (by omega), n (99 + 4 * s) (by omega) (by omega)]
    exact h.w6.2 s k0 (by omega)
theorem z01_f {x : Int} (h : z01 x) : z01 (1 - x) := by
  rcases h with h | h
  · exact Or.inr (by omega)
  · exact Or.inl (by omega)
theorem sDraw_wa {M : Int} {a : Int → Int} {k x : Int} (h : WA M a) (k0 : 0 ≤ k) (k1 : k < a 0) (hx : z01 x) : WA M (zA a (10 + k) x) := by
  have n0 := h.n0
  have n : ∀ j, j ≠ 10 + k → zA a (10 + k) x j = a j := fun j q => zA_n q
  have f2 := n 2 (by omega)
  have f1 := n 1 (by omega)
  have f0 := n 0 (by omega)
  refine WA.mk' ⟨by omega, fun i i0 i1 => ?_⟩ (h.w1.of fun j hj => n j (by omega)) (h.w2.of fun j hj => n j (by omega)) (by rw [n 3 (by omega)]; exact h.n3) (h.w4.of (by omega) fun j hj => n j (by omega)) (h.w5.of (by omega) fun j hj => n j (by omega)) (h.w6.of (by omega) fun j hj => n j (by omega)) (by rw [f0, f1]; exact h.w7.of h.n0.2 h.n1.2 fun j hj => n j (by omega))
  rw [f0] at i1
  rw [n (4 + i) (by omega)]
  refine ⟨(h.w0.2 i i0 i1).1, ?_⟩
  by_cases e : i = k
  · rw [e, zA_s]; exact hx
  · rw [n _ (by omega)]; exact (h.w0.2 i i0 i1).2
theorem sTurn_wa {M : Int} {a : Int → Int} {k x : Int} (h : WA M a) (k0 : 0 ≤ k) (k1 : k < a 1) (hx : z01 x) : WA M (zA a (40 + k) x) := by
  have n0 := h.n1
  have n : ∀ j, j ≠ 40 + k → zA a (40 + k) x j = a j := fun j q => zA_n q
  have f2 := n 2 (by omega)
  have f1 := n 1 (by omega)
  have f0 := n 0 (by omega)
  refine WA.mk' (h.w0.of fun j hj => n j (by omega)) ⟨by omega, fun i i0 i1 => ?_⟩ (h.w2.of fun j hj => n j (by omega)) (by rw [n 3 (by omega)]; exact h.n3) (h.w4.of (by omega) fun j hj => n j (by omega)) (h.w5.of (by omega) fun j hj => n j (by omega)) (h.w6.of (by omega) fun j hj => n j (by omega)) (by rw [f0, f1]; exact h.w7.of h.n0.2 h.n1.2 fun j hj => n j (by omega))
  rw [f1] at i1
  rw [n (16 + i) (by omega), n (22 + i) (by omega), n (28 + i) (by omega), n (34 + i) (by omega)]
  have := h.w1.2 i i0 i1
  refine ⟨this.1, this.2.1, this.2.2.1, this.2.2.2.1, ?_⟩
  by_cases e : i = k
  · rw [e, zA_s]; exact hx
  · rw [n _ (by omega)]; exact this.2.2.2.2
theorem sMin_wa {M M' : Int} {a : Int → Int} {x : Int} (h : WA M a) (hx : 0 ≤ x ∧ x ≤ M') (hM : M ≤ M') : WA M' (zA a 3 x) := by
  have n : ∀ j, j ≠ 3 → zA a 3 x j = a j := fun j q => zA_n q
  have f2 := n 2 (by omega)
  have f1 := n 1 (by omega)
  have f0 := n 0 (by omega)
  refine WA.mk' (h.w0.of fun j hj => n j (by omega)) (h.w1.of fun j hj => n j (by omega)) (h.w2.of fun j hj => n j (by omega)) (by rw [zA_s]; exact hx) (h.w4.of (by omega) fun j hj => n j (by omega)) (h.w5.of (by omega) fun j hj => n j (by omega)) (h.w6.of (by omega) fun j hj => n j (by omega)) (by rw [f0, f1]; have := h.w7.of (a' := zA a 3 x) h.n0.2 h.n1.2 fun j hj => n j (by omega); exact ⟨this.1, fun u u0 u1 => ⟨⟨(this.2 u u0 u1).1.1, by have := (this.2 u u0 u1).1.2; omega⟩, (this.2 u u0 u1).2⟩⟩)
theorem sNo_wa {M : Int} {a : Int → Int} (h : WA M a) : WA M (zA a 120 0) := by
  have n : ∀ j, j ≠ 120 → zA a 120 0 j = a j := fun j q => zA_n q
  have f2 := n 2 (by omega)
  have f1 := n 1 (by omega)
  exact WA.mk' (h.w0.of fun j hj => n j (by omega)) (h.w1.of fun j hj => n j (by omega)) (h.w2.of fun j hj => n j (by omega)) (by rw [n 3 (by omega)]; exact h.n3) (h.w4.of (by omega) fun j hj => n j (by omega)) (h.w5.of (by omega) fun j hj => n j (by omega)) (h.w6.of (by omega) fun j hj => n j (by omega)) (W7.nil zA_s)
theorem sForget_wa {M : Int} {a : Int → Int} {p : Int} (h : WA M a) (hp : p = 54 ∨ p = 70 ∨ p = 95) : WA M (zA a p 0) := by
  have n : ∀ j, j ≠ p → zA a p 0 j = a j := fun j q => zA_n q
  have f2 := n 2 (by omega)
  have f1 := n 1 (by omega)
  have f0 := n 0 (by omega)
  refine WA.mk' (h.w0.of fun j hj => n j (by omega)) (h.w1.of fun j hj => n j (by omega)) (h.w2.of fun j hj => n j (by omega)) (by rw [n 3 (by omega)]; exact h.n3) ?_ ?_ ?_ (by rw [f0, f1]; exact h.w7.of h.n0.2 h.n1.2 fun j hj => n j (by omega))
  · by_cases e : p = 54
    · rw [e]; exact ⟨by rw [zA_s]; omega, fun s s0 s1 => by rw [zA_s] at s1; omega⟩
    · exact h.w4.of (by omega) fun j hj => n j (by omega)
  · by_cases e : p = 70
    · rw [e]; exact ⟨by rw [zA_s]; omega, fun s s0 s1 => by rw [zA_s] at s1; omega⟩
    · exact h.w5.of (by omega) fun j hj => n j (by omega)
  · by_cases e : p = 95
    · rw [e]; exact ⟨by rw [zA_s]; omega, fun s s0 s1 => by rw [zA_s] at s1; omega⟩
    · exact h.w6.of (by omega) fun j hj => n j (by omega)
theorem sZero_wa {M : Int} (hM : 0 ≤ M) : WA M (fun _ => 0) := by
  refine WA.mk' ?_ ?_ ?_ ?_ ?_ ?_ ?_ ?_
  · exact ⟨⟨by decide, by decide⟩, fun k k0 k1 => absurd (show k < 0 from k1) (by omega)⟩
  · exact ⟨⟨by decide, by decide⟩, fun k k0 k1 => absurd (show k < 0 from k1) (by omega)⟩
  · exact ⟨⟨by decide, by decide⟩, fun k k0 k1 => absurd (show k < 0 from k1) (by omega)⟩
  · exact ⟨by decide, hM⟩
  · exact ⟨⟨by decide, by decide⟩, fun k k0 k1 => absurd (show k < 0 from k1) (by omega)⟩
  · exact ⟨⟨by decide, by decide⟩, fun k k0 k1 => absurd (show k < 0 from k1) (by omega)⟩
  · exact ⟨⟨by decide, by decide⟩, fun k k0 k1 => absurd (show k < 0 from k1) (by omega)⟩
  · exact W7.nil rfl
theorem sMind_n {a : Int → Int} {j : Int} (h0 : 0 ≤ a 120) (hj : j ≠ 120) (hj2 : j < 121 + 19 * a 120 ∨ 140 + 19 * a 120 ≤ j) : sMind a j = a j := by
  unfold sMind sRec
  rw [zA_n hj, if_neg (by omega), if_neg (by omega), if_neg (by omega), if_neg (by omega)]
theorem sMind_c {a : Int → Int} : sMind a 120 = a 120 + 1 := zA_s
theorem sMind_m {a : Int → Int} (h0 : 0 ≤ a 120) : sMind a (121 + 19 * a 120) = a 3 := by
  unfold sMind sRec
  rw [zA_n (by omega), if_pos rfl]
theorem sMind_d {a : Int → Int} {k : Int} (h0 : 0 ≤ a 120) (k0 : 0 ≤ k) (k1 : k < 6) : sMind a (122 + 19 * a 120 + k) = a (10 + k) := by
  unfold sMind sRec
  rw [zA_n (by omega), if_neg (by omega), if_pos (by omega), show 9 + (122 + 19 * a 120 + k - (121 + 19 * a 120)) = 10 + k by omega]
theorem sMind_a {a : Int → Int} {k : Int} (h0 : 0 ≤ a 120) (k0 : 0 ≤ k) (k1 : k < 6) : sMind a (128 + 19 * a 120 + k) = a (34 + k) := by
  unfold sMind sRec
  rw [zA_n (by omega), if_neg (by omega), if_neg (by omega), if_pos (by omega), show 27 + (128 + 19 * a 120 + k - (121 + 19 * a 120)) = 34 + k by omega]
theorem sMind_t {a : Int → Int} {k : Int} (h0 : 0 ≤ a 120) (k0 : 0 ≤ k) (k1 : k < 6) : sMind a (134 + 19 * a 120 + k) = a (40 + k) := by
  unfold sMind sRec
  rw [zA_n (by omega), if_neg (by omega), if_neg (by omega), if_neg (by omega), if_pos (by omega), show 27 + (134 + 19 * a 120 + k - (121 + 19 * a 120)) = 40 + k by omega]
theorem sMind_wa {M : Int} {a : Int → Int} (h : WA M a) (h1 : a 120 < 8) : WA M (sMind a) := by
  have n7 := h.n7
  have n := fun j p q => sMind_n (a := a) (j := j) n7.1 p q
  have f2 := n 2 (by omega) (by omega)
  have f1 := n 1 (by omega) (by omega)
  have f0 := n 0 (by omega) (by omega)
  have c0 := h.n0
  have c1 := h.n1
  refine WA.mk' (h.w0.of fun j hj => n j (by omega) (by omega)) (h.w1.of fun j hj => n j (by omega) (by omega)) (h.w2.of fun j hj => n j (by omega) (by omega)) (by rw [n 3 (by omega) (by omega)]; exact h.n3) (h.w4.of (by omega) fun j hj => n j (by omega) (by omega)) (h.w5.of (by omega) fun j hj => n j (by omega) (by omega)) (h.w6.of (by omega) fun j hj => n j (by omega) (by omega)) ⟨by rw [sMind_c]; omega, fun u u0 u1 => ?_⟩
  rw [sMind_c] at u1
  rw [f0, f1]
  by_cases e : u = a 120
  · rw [e, sMind_m n7.1]
    refine ⟨h.n3, fun k k0 k1 => ?_, fun i i0 i1 => ?_⟩
    · rw [sMind_d n7.1 k0 (by omega)]
      exact (h.w0.2 k k0 k1).2
    · rw [sMind_a n7.1 i0 (by omega), sMind_t n7.1 i0 (by omega)]
      exact (h.w1.2 i i0 i1).2.2.2
  · have := h.w7.2 u u0 (by omega)
    refine ⟨?_, fun k k0 k1 => ?_, fun i i0 i1 => ?_⟩
    · rw [n _ (by omega) (by omega)]; exact this.1
    · rw [n _ (by omega) (by omega)]; exact this.2.1 k k0 k1
    · rw [n _ (by omega) (by omega), n _ (by omega) (by omega)]; exact this.2.2 i i0 i1
theorem sShift_n {a : Int → Int} {j : Int} (hj : j < 120 ∨ 254 ≤ j) : sShift a j = a j := by
  unfold sShift
  rw [if_neg (by omega), if_neg (by omega)]
theorem sShift_u {a : Int → Int} {j : Int} (h0 : 121 ≤ j) (h1 : j < 254) : sShift a j = a (j + 19) := by
  unfold sShift
  rw [if_pos ⟨h0, h1⟩]
theorem sShift_c {a : Int → Int} : sShift a 120 = 7 := by
  unfold sShift
  rw [if_neg (by omega), if_pos rfl]
theorem sShift_wa {M : Int} {a : Int → Int} (h : WA M a) (h1 : a 120 = 8) : WA M (sShift a) := by
  have n := fun j p => sShift_n (a := a) (j := j) p
  have f2 := n 2 (by omega)
  have f1 := n 1 (by omega)
  have f0 := n 0 (by omega)
  have c0 := h.n0
  have c1 := h.n1
  refine WA.mk' (h.w0.of fun j hj => n j (by omega)) (h.w1.of fun j hj => n j (by omega)) (h.w2.of fun j hj => n j (by omega)) (by rw [n 3 (by omega)]; exact h.n3) (h.w4.of (by omega) fun j hj => n j (by omega)) (h.w5.of (by omega) fun j hj => n j (by omega)) (h.w6.of (by omega) fun j hj => n j (by omega)) ⟨by rw [sShift_c]; omega, fun u u0 u1 => ?_⟩
  rw [sShift_c] at u1
  rw [f0, f1]
  have := h.w7.2 (u + 1) (by omega) (by omega)
  refine ⟨?_, fun k k0 k1 => ?_, fun i i0 i1 => ?_⟩
  · rw [sShift_u (by omega) (by omega), show 121 + 19 * u + 19 = 121 + 19 * (u + 1) by omega]; exact this.1
  · rw [sShift_u (by omega) (by omega), show 122 + 19 * u + k + 19 = 122 + 19 * (u + 1) + k by omega]; exact this.2.1 k k0 k1
  · rw [sShift_u (by omega) (by omega), sShift_u (by omega) (by omega), show 128 + 19 * u + i + 19 = 128 + 19 * (u + 1) + i by omega, show 134 + 19 * u + i + 19 = 134 + 19 * (u + 1) + i by omega]; exact this.2.2 i i0 i1
theorem sMinds_wa {M : Int} {a : Int → Int} (h : WA M a) : WA M (sMinds a) := by
  unfold sMinds
  split
  · rename_i q
    exact sMind_wa (sShift_wa h q) (by rw [sShift_c]; omega)
  · have := h.n7
    exact sMind_wa h (by omega)
theorem sUndo_n {a : Int → Int} {j : Int} (h1 : j ≠ 3) (h2 : j < 10 ∨ 16 ≤ j) (h3 : j < 34 ∨ 46 ≤ j) (h4 : j ≠ 120) : sUndo a j = a j := by
  unfold sUndo
  rw [if_neg h1, if_neg (by omega), if_neg (by omega), if_neg (by omega), if_neg h4]
theorem sUndo_e {a : Int → Int} : sUndo a 3 = a (102 + 19 * a 120) ∧ sUndo a 120 = a 120 - 1 ∧ (∀ k, 0 ≤ k → k < 6 → sUndo a (10 + k) = a (103 + 19 * a 120 + k) ∧ sUndo a (34 + k) = a (109 + 19 * a 120 + k) ∧ sUndo a (40 + k) = a (115 + 19 * a 120 + k)) := by
  unfold sUndo
  refine ⟨by rw [if_pos rfl], ?_, fun k k0 k1 => ⟨?_, ?_, ?_⟩⟩
  · rw [if_neg (by omega), if_neg (by omega), if_neg (by omega), if_neg (by omega), if_pos rfl]
  · rw [if_neg (by omega), if_pos (by omega), show 93 + 19 * a 120 + (10 + k) = 103 + 19 * a 120 + k by omega]
  · rw [if_neg (by omega), if_neg (by omega), if_pos (by omega), show 75 + 19 * a 120 + (34 + k) = 109 + 19 * a 120 + k by omega]
  · rw [if_neg (by omega), if_neg (by omega), if_neg (by omega), if_pos (by omega), show 75 + 19 * a 120 + (40 + k) = 115 + 19 * a 120 + k by omega]
theorem sUndo_wa {M : Int} {a : Int → Int} (h : WA M a) (h1 : 0 < a 120) : WA M (sUndo a) := by
  have n := fun j p q r s => sUndo_n (a := a) (j := j) p q r s
  obtain ⟨e3, e120, ek⟩ := sUndo_e (a := a)
  have f2 := n 2 (by omega) (by omega) (by omega) (by omega)
  have f1 := n 1 (by omega) (by omega) (by omega) (by omega)
  have f0 := n 0 (by omega) (by omega) (by omega) (by omega)
  have c0 := h.n0
  have c1 := h.n1
  have c7 := h.n7
  have hu := h.w7.2 (a 120 - 1) (by omega) (by omega)
  rw [show 121 + 19 * (a 120 - 1) = 102 + 19 * a 120 by omega, show 122 + 19 * (a 120 - 1) = 103 + 19 * a 120 by omega, show 128 + 19 * (a 120 - 1) = 109 + 19 * a 120 by omega, show 134 + 19 * (a 120 - 1) = 115 + 19 * a 120 by omega] at hu
  refine WA.mk' ⟨by omega, fun k k0 k1 => ?_⟩ ⟨by omega, fun i i0 i1 => ?_⟩ (h.w2.of fun j hj => n j (by omega) (by omega) (by omega) (by omega)) (by rw [e3]; exact hu.1) (h.w4.of (by omega) fun j hj => n j (by omega) (by omega) (by omega) (by omega)) (h.w5.of (by omega) fun j hj => n j (by omega) (by omega) (by omega) (by omega)) (h.w6.of (by omega) fun j hj => n j (by omega) (by omega) (by omega) (by omega)) ?_
  · rw [f0] at k1
    rw [n (4 + k) (by omega) (by omega) (by omega) (by omega), (ek k k0 (by omega)).1]
    exact ⟨(h.w0.2 k k0 k1).1, hu.2.1 k k0 k1⟩
  · rw [f1] at i1
    have hi := h.w1.2 i i0 i1
    rw [n (16 + i) (by omega) (by omega) (by omega) (by omega), n (22 + i) (by omega) (by omega) (by omega) (by omega), n (28 + i) (by omega) (by omega) (by omega) (by omega), (ek i i0 (by omega)).2.1, (ek i i0 (by omega)).2.2]
    exact ⟨hi.1, hi.2.1, hi.2.2.1, hu.2.2 i i0 i1⟩
  · rw [f0, f1]
    refine ⟨by omega, fun u u0 u1 => ?_⟩
    have := h.w7.2 u u0 (by omega)
    refine ⟨by rw [n _ (by omega) (by omega) (by omega) (by omega)]; exact this.1, fun k k0 k1 => ?_, fun i i0 i1 => ?_⟩
    · rw [n _ (by omega) (by omega) (by omega) (by omega)]; exact this.2.1 k k0 k1
    · rw [n _ (by omega) (by omega) (by omega) (by omega), n _ (by omega) (by omega) (by omega) (by omega)]; exact this.2.2 i i0 i1
