/-! ===== 17: what a back is, in flat numbers; ways, next steps, minutes ===== -/
def adjO (op : Int → Prop) (x y : Int) : Prop := (y = x + 1 ∧ x / 4 = y / 4) ∨ (x = y + 1 ∧ x / 4 = y / 4) ∨ (y = x + 4 ∧ op x) ∨ (x = y + 4 ∧ op y)
theorem adjO_sym {op : Int → Prop} {x y : Int} (h : adjO op x y) : adjO op y x := by
  rcases h with ⟨h1, h2⟩ | ⟨h1, h2⟩ | h | h
  · exact Or.inr (Or.inl ⟨h1, h2.symm⟩)
  · exact Or.inl ⟨h1, h2.symm⟩
  · exact Or.inr (Or.inr (Or.inr h))
  · exact Or.inr (Or.inr (Or.inl h))
theorem adjO_congr {op op' : Int → Prop} (h : ∀ c, 0 ≤ c → c < 16 → (op c ↔ op' c)) (x y : Int) (hx : inC x) (hy : inC y) : adjO op x y ↔ adjO op' x y := by
  have key : ∀ {p q : Int → Prop}, (∀ c, 0 ≤ c → c < 16 → (p c ↔ q c)) → adjO p x y → adjO q x y := by
    intro p q h hh
    rcases hh with h1 | h1 | ⟨h1, h2⟩ | ⟨h1, h2⟩
    · exact Or.inl h1
    · exact Or.inr (Or.inl h1)
    · exact Or.inr (Or.inr (Or.inl ⟨h1, (h x hx.1 (by have := hy.2; omega)).mp h2⟩))
    · exact Or.inr (Or.inr (Or.inr ⟨h1, (h y hy.1 (by have := hx.2; omega)).mp h2⟩))
  exact ⟨key h, key (fun c h0 h1 => (h c h0 h1).symm)⟩
noncomputable def sD (op : Int → Prop) (g c : Int) : Int := sd (adjO op) (fun x => x = g) c
theorem sD_congr {op op' : Int → Prop} (h : ∀ c, 0 ≤ c → c < 16 → (op c ↔ op' c)) (g c : Int) : sD op g c = sD op' g c := sd_congr (adjO_congr h) (fun _ _ => Iff.rfl) c
theorem sD_is (op : Int → Prop) (g c : Int) : isD (adjO op) (fun x => x = g) c (sD op g c) := sd_is _ _ _
theorem sD_le (op : Int → Prop) (g c : Int) : -1 ≤ sD op g c := by
  rcases sD_is op g c with ⟨h, -⟩ | ⟨h, -⟩ <;> omega
theorem sD_0 {op : Int → Prop} {g c : Int} (hg : inC g) : sD op g c = 0 ↔ c = g := by
  constructor
  · intro h
    rcases sD_is op g c with ⟨h1, -⟩ | ⟨-, h2, -⟩
    · omega
    · rw [h] at h2
      exact h2.2
  · intro h
    subst h
    rcases sD_is op c c with ⟨-, h2⟩ | ⟨h1, -, h3⟩
    · exact absurd ⟨hg, rfl⟩ (h2 0)
    · have := h3 0 ⟨hg, rfl⟩
      omega
/-- r is where one steps next from c to g -/
def isN (op : Int → Prop) (c g r : Int) : Prop := (sD op g c ≤ 0 ∧ r = c) ∨ (0 < sD op g c ∧ inC r ∧ adjO op c r ∧ sD op g r = sD op g c - 1 ∧ ∀ b, inC b → b < r → adjO op c b → sD op g b ≠ sD op g c - 1)
theorem isN_u {op : Int → Prop} {c g r r' : Int} (h : isN op c g r) (h' : isN op c g r') : r = r' := by
  rcases h with ⟨h1, h2⟩ | ⟨h1, h2, h3, h4, h5⟩ <;> rcases h' with ⟨g1, g2⟩ | ⟨g1, g2, g3, g4, g5⟩
  · omega
  · omega
  · omega
  · have a1 : ¬ r < r' := fun q => g5 r h2 q h3 h4
    have a2 : ¬ r' < r := fun q => h5 r' g2 q g3 g4
    omega
theorem sD_pre {op : Int → Prop} {g c : Int} (h : 0 < sD op g c) : ∃ b, inC b ∧ adjO op c b ∧ sD op g b = sD op g c - 1 := by
  rcases sD_is op g c with ⟨h1, -⟩ | ⟨-, h2, h3⟩
  · omega
  · obtain ⟨n, hn⟩ : ∃ n, (sD op g c).toNat = n + 1 := ⟨(sD op g c).toNat - 1, by omega⟩
    rw [hn] at h2
    obtain ⟨hc, b, hb, had⟩ := h2
    refine ⟨b, sP_in hb, adjO_sym had, ?_⟩
    rcases sD_is op g b with ⟨g1, g2⟩ | ⟨g1, g2, g3⟩
    · exact absurd hb (g2 n)
    · have a1 := g3 n hb
      have a2 := h3 ((sD op g b).toNat + 1) ⟨hc, b, g2, had⟩
      omega
theorem isN_ex (op : Int → Prop) (c g : Int) : ∃ r, isN op c g r := by
  by_cases h : sD op g c ≤ 0
  · exact ⟨c, Or.inl ⟨h, rfl⟩⟩
  · have key : ∀ (n : Nat) (b : Int), b.toNat = n → inC b → adjO op c b → sD op g b = sD op g c - 1 → ∃ r, isN op c g r := by
      intro n
      induction n using Nat.strongRecOn with
      | _ n ih =>
        intro b hb h1 h2 h3
        by_cases hm : ∃ b', inC b' ∧ b' < b ∧ adjO op c b' ∧ sD op g b' = sD op g c - 1
        · obtain ⟨b', g1, g2, g3, g4⟩ := hm
          exact ih b'.toNat (by have := g1.1; omega) b' rfl g1 g3 g4
        · exact ⟨b, Or.inr ⟨by omega, h1, h2, h3, fun b' g1 g2 g3 g4 => hm ⟨b', g1, g2, g3, g4⟩⟩⟩
    obtain ⟨b, h1, h2, h3⟩ := sD_pre (op := op) (g := g) (c := c) (by omega)
    exact key _ b rfl h1 h2 h3
noncomputable def sNx (op : Int → Prop) (c g : Int) : Int := Classical.choose (isN_ex op c g)
theorem sNx_is (op : Int → Prop) (c g : Int) : isN op c g (sNx op c g) := Classical.choose_spec (isN_ex op c g)
theorem sNx_of {op : Int → Prop} {c g r : Int} (h : isN op c g r) : sNx op c g = r := isN_u (sNx_is op c g) h
theorem sNx_in {op : Int → Prop} {c g : Int} (hc : inC c) : inC (sNx op c g) := by
  rcases sNx_is op c g with ⟨-, h⟩ | ⟨-, h, -⟩
  · rw [h]; exact hc
  · exact h
theorem sNx_congr {op op' : Int → Prop} (h : ∀ c, 0 ≤ c → c < 16 → (op c ↔ op' c)) {c : Int} (hc : inC c) (g : Int) : sNx op c g = sNx op' c g := by
  refine sNx_of ?_
  have e := fun x => sD_congr h g x
  rcases sNx_is op' c g with ⟨h1, h2⟩ | ⟨h1, h2, h3, h4, h5⟩
  · exact Or.inl ⟨by rw [e]; exact h1, h2⟩
  · refine Or.inr ⟨by rw [e]; exact h1, h2, (adjO_congr h _ _ hc h2).mpr h3, by rw [e, e]; exact h4, fun b g1 g2 g3 => ?_⟩
    rw [e, e]
    exact h5 b g1 g2 ((adjO_congr h _ _ hc g1).mp g3)
theorem sNx_goal {op : Int → Prop} {g : Int} (hg : inC g) : sNx op g g = g := sNx_of (Or.inl ⟨by rw [(sD_0 hg).mpr rfl]; exact Int.le_refl _, rfl⟩)
-- sums
def zsum : Nat → (Int → Int) → Int
  | 0, _ => 0
  | n + 1, f => zsum n f + f n
theorem zsum_eq {f f' : Int → Int} : ∀ n : Nat, (∀ k : Int, 0 ≤ k → k < n → f k = f' k) → zsum n f = zsum n f'
  | 0, _ => rfl
  | n + 1, h => by
    unfold zsum
    rw [zsum_eq n (fun k h0 h1 => h k h0 (by omega)), h n (by omega) (by omega)]
theorem zsum_b {f : Int → Int} {m : Int} : ∀ n : Nat, (∀ k : Int, 0 ≤ k → k < n → 0 ≤ f k ∧ f k ≤ m) → 0 ≤ zsum n f ∧ zsum n f ≤ n * m
  | 0, _ => by simp [zsum]
  | n + 1, h => by
    have ih := zsum_b n (fun k h0 h1 => h k h0 (by omega))
    have h1 := h n (by omega) (by omega)
    unfold zsum
    have e : ((n + 1 : Nat) : Int) * m = n * m + m := by rw [Int.natCast_add, Int.add_mul]; simp
    rw [e]
    omega
/-- the bits of those of the first n for which f is not 0 -/
def zbits (n : Nat) (f : Int → Int) : Int := zsum n (fun i => if f i = 0 then 0 else 2 ^ i.toNat)
theorem zbits_b {f : Int → Int} : ∀ n : Nat, 0 ≤ zbits n f ∧ zbits n f < 2 ^ n
  | 0 => by simp [zbits, zsum]
  | n + 1 => by
    have ih := zbits_b (f := f) n
    have e : (2 : Int) ^ (n + 1) = 2 ^ n + 2 ^ n := by rw [Int.pow_succ]; omega
    unfold zbits zsum
    unfold zbits at ih
    rw [e]
    dsimp only
    rw [Int.toNat_natCast]
    split <;> omega
-- loudness, hearing
def zSl (f : Int) : Int := 1 + f / 2
def zLo (k f m : Int) : Int := if k = 0 then zSl f else if k = 1 then zSl f + 2 else if k = 2 then (if m % 2 = 0 then 0 else zSl f) else if k = 3 then (if f = 0 then 2 * (zSl f + 2) else zSl f + 2) else if k = 4 then zSl f / 2 else (if m % 2 = 0 then zSl f + 2 else zSl f + 1)
theorem zLo_b {k f m : Int} (h0 : 0 ≤ f) (h1 : f ≤ 4) : 0 ≤ zLo k f m ∧ zLo k f m ≤ 10 := by
  unfold zLo zSl
  split
  · omega
  · split
    · omega
    · split
      · split <;> omega
      · split
        · split <;> omega
        · split
          · omega
          · split <;> omega
def zLi (x d : Int) : Int := if 1 ≤ x then x - d + 2 else x - d
def zDe (x d : Int) : Int := if 0 < x - d then (x - d) / 2 else x - d
def zHe (k x d : Int) : Int := if k = 0 then x - d else if k = 1 then zLi x d else if k = 2 then zDe x d else if k = 3 then (if d ≤ 1 then 1 else zLi x d) else if k = 4 then zLi x d + x else (if 2 < zDe x d then 2 else zDe x d)
theorem zHe_b {k x d : Int} (h0 : 0 ≤ x) (h1 : x ≤ 1000) (h2 : 0 ≤ d) (h3 : d ≤ 1000) : -2000 ≤ zHe k x d ∧ zHe k x d ≤ 3000 := by
  have a1 : -1000 ≤ zLi x d ∧ zLi x d ≤ 1002 := by unfold zLi; split <;> omega
  have a2 : -1000 ≤ zDe x d ∧ zDe x d ≤ 1000 := by unfold zDe; split <;> omega
  unfold zHe
  split
  · omega
  · split
    · omega
    · split
      · omega
      · split
        · split <;> omega
        · split
          · omega
          · split <;> omega
def zAb (v : Int) : Int := if v < 0 then -v else v
def zAp (x y : Int) : Int := zAb (x / 4 - y / 4) + zAb (x % 4 - y % 4)
theorem zAp_b {x y : Int} (hx : inC x) (hy : inC y) : 0 ≤ zAp x y ∧ zAp x y ≤ 7 := by
  have h1 := hx.1
  have h2 := hx.2
  have h3 := hy.1
  have h4 := hy.2
  unfold zAp zAb
  split <;> split <;> omega
-- the back
def zA (a : Int → Int) (k x : Int) : Int → Int := fun j => if j = k then x else a j
theorem zA_s {a : Int → Int} {k x : Int} : zA a k x k = x := by simp [zA]
theorem zA_n {a : Int → Int} {k x j : Int} (h : j ≠ k) : zA a k x j = a j := by simp [zA, h]
def z01 (x : Int) : Prop := x = 0 ∨ x = 1
def WA (M : Int) (a : Int → Int) : Prop :=
  ((0 ≤ a 0 ∧ a 0 ≤ 6) ∧ (0 ≤ a 1 ∧ a 1 ≤ 6) ∧ (0 ≤ a 2 ∧ a 2 ≤ 4) ∧ (0 ≤ a 3 ∧ a 3 ≤ M) ∧ (0 ≤ a 54 ∧ a 54 ≤ 5) ∧ (0 ≤ a 70 ∧ a 70 ≤ 6) ∧ (0 ≤ a 95 ∧ a 95 ≤ 6) ∧ (0 ≤ a 120 ∧ a 120 ≤ 8)) ∧
  (∀ k, 0 ≤ k → k < a 0 → (0 ≤ a (4 + k) ∧ a (4 + k) < 16) ∧ z01 (a (10 + k))) ∧
  (∀ i, 0 ≤ i → i < a 1 → (0 ≤ a (16 + i) ∧ a (16 + i) < 6) ∧ inC (a (22 + i)) ∧ inC (a (28 + i)) ∧ inC (a (34 + i)) ∧ z01 (a (40 + i))) ∧
  (∀ k, 0 ≤ k → k < a 2 → (0 ≤ a (46 + k) ∧ a (46 + k) < 6) ∧ inC (a (50 + k))) ∧
  (∀ s, 0 ≤ s → s < a 54 → (0 ≤ a (55 + 3 * s) ∧ a (55 + 3 * s) < a 2) ∧ (0 ≤ a (56 + 3 * s) ∧ a (56 + 3 * s) ≤ 30) ∧ (1 ≤ a (57 + 3 * s) ∧ a (57 + 3 * s) ≤ 20)) ∧
  (∀ n, 0 ≤ n → n < a 70 → (0 ≤ a (71 + 4 * n) ∧ a (71 + 4 * n) < a 1) ∧ (0 ≤ a (72 + 4 * n) ∧ a (72 + 4 * n) ≤ 4) ∧ (0 ≤ a (73 + 4 * n) ∧ a (73 + 4 * n) ≤ 99) ∧ (0 ≤ a (74 + 4 * n) ∧ a (74 + 4 * n) ≤ 20)) ∧
  (∀ n, 0 ≤ n → n < a 95 → (0 ≤ a (96 + 4 * n) ∧ a (96 + 4 * n) < a 2) ∧ (0 ≤ a (97 + 4 * n) ∧ a (97 + 4 * n) ≤ 20) ∧ (0 ≤ a (98 + 4 * n) ∧ a (98 + 4 * n) ≤ 7) ∧ z01 (a (99 + 4 * n))) ∧
  (∀ u, 0 ≤ u → u < a 120 → (0 ≤ a (121 + 19 * u) ∧ a (121 + 19 * u) ≤ M) ∧ (∀ k, 0 ≤ k → k < a 0 → z01 (a (122 + 19 * u + k))) ∧ (∀ i, 0 ≤ i → i < a 1 → inC (a (128 + 19 * u + i)) ∧ z01 (a (134 + 19 * u + i))))
def sOp (a : Int → Int) (c : Int) : Prop := ∃ k, 0 ≤ k ∧ k < a 0 ∧ a (4 + k) = c ∧ a (10 + k) = 1
def sGl (a : Int → Int) (i : Int) : Int := if a (40 + i) = 1 then a (22 + i) else a (28 + i)
noncomputable def sNa (a : Int → Int) (i : Int) : Int := sNx (sOp a) (a (34 + i)) (sGl a i)
noncomputable def sPass (a : Int → Int) : Int → Int := fun j => if 34 ≤ j ∧ j < 34 + a 1 then sNa a (j - 34) else if j = 3 then a 3 + 1 else a j
noncomputable def sCt (a : Int → Int) : Int := zsum (a 1).toNat (fun i => if sNa a i = a (34 + i) then 0 else 1)
noncomputable def sPs : Nat → (Int → Int) → Int → Int
  | 0, a => a
  | n + 1, a => sPass (sPs n a)
noncomputable def sCs : Nat → (Int → Int) → Int
  | 0, _ => 0
  | n + 1, a => sCs n a + sCt (sPs n a)
noncomputable def sAt (a : Int → Int) (i : Int) : Nat → Int
  | 0 => a (34 + i)
  | n + 1 => sNx (sOp a) (sAt a i n) (sGl a i)
noncomputable def sLd (a : Int → Int) (i : Int) : Int := if sNa a i = a (34 + i) then 0 else zLo (a (16 + i)) (a (34 + i) / 4) (a 3)
noncomputable def sHr (a : Int → Int) (k i : Int) : Int := if sNa a i = a (34 + i) then 0 else if 1 ≤ zHe (a (46 + k)) (zLo (a (16 + i)) (a (34 + i) / 4) (a 3)) (zAp (a (50 + k)) (a (34 + i))) then 1 else 0
theorem sPass_n {a : Int → Int} {j : Int} (h : ¬ (34 ≤ j ∧ j < 40)) (h1 : a 1 ≤ 6) (h3 : j ≠ 3) : sPass a j = a j := by
  unfold sPass
  rw [if_neg (by omega), if_neg h3]
theorem sPass_3 {a : Int → Int} : sPass a 3 = a 3 + 1 := by
  unfold sPass
  rw [if_neg (by omega), if_pos rfl]
theorem sPass_at {a : Int → Int} {i : Int} (h0 : 0 ≤ i) (h1 : i < a 1) : sPass a (34 + i) = sNa a i := by
  unfold sPass
  rw [if_pos (by omega), show 34 + i - 34 = i by omega]
theorem sPs_n {a : Int → Int} {j : Int} (h : ¬ (34 ≤ j ∧ j < 40)) (h1 : a 1 ≤ 6) (h3 : j ≠ 3) : ∀ n, sPs n a j = a j
  | 0 => rfl
  | n + 1 => by
    have e1 : sPs n a 1 = a 1 := sPs_n (by omega) h1 (by omega) n
    show sPass (sPs n a) j = a j
    rw [sPass_n h (by omega) h3, sPs_n h h1 h3 n]
theorem sPs_3 {a : Int → Int} : ∀ n : Nat, sPs n a 3 = a 3 + n
  | 0 => by simp [sPs]
  | n + 1 => by
    show sPass (sPs n a) 3 = _
    rw [sPass_3, sPs_3 n]
    omega
theorem sOp_eq {a a' : Int → Int} (h0 : a' 0 = a 0) (h : ∀ j, 4 ≤ j → j < 10 + a 0 → a' j = a j) : sOp a' = sOp a := by
  funext c
  apply propext
  constructor
  · rintro ⟨k, k0, k1, k2, k3⟩
    exact ⟨k, k0, by omega, by rw [← h _ (by omega) (by omega)]; exact k2, by rw [← h _ (by omega) (by omega)]; exact k3⟩
  · rintro ⟨k, k0, k1, k2, k3⟩
    exact ⟨k, k0, by omega, by rw [h _ (by omega) (by omega)]; exact k2, by rw [h _ (by omega) (by omega)]; exact k3⟩
theorem sPs_op {a : Int → Int} (h0 : a 0 ≤ 6) (h1 : a 1 ≤ 6) (n : Nat) : sOp (sPs n a) = sOp a := sOp_eq (sPs_n (by omega) h1 (by omega) n) (fun j j0 j1 => sPs_n (by omega) h1 (by omega) n)
theorem sPs_gl {a : Int → Int} (h1 : a 1 ≤ 6) {i : Int} (i0 : 0 ≤ i) (i1 : i < a 1) (n : Nat) : sGl (sPs n a) i = sGl a i := by
  unfold sGl
  rw [sPs_n (by omega) h1 (by omega) n, sPs_n (by omega) h1 (by omega) n, sPs_n (by omega) h1 (by omega) n]
theorem sPs_at {a : Int → Int} (h0 : a 0 ≤ 6) (h1 : a 1 ≤ 6) {i : Int} (i0 : 0 ≤ i) (i1 : i < a 1) : ∀ n, sPs n a (34 + i) = sAt a i n
  | 0 => rfl
  | n + 1 => by
    have e1 : sPs n a 1 = a 1 := sPs_n (by omega) h1 (by omega) n
    show sPass (sPs n a) (34 + i) = _
    rw [sPass_at i0 (by omega)]
    unfold sNa
    rw [sPs_op h0 h1, sPs_gl h1 i0 i1, sPs_at h0 h1 i0 i1 n]
    rfl
theorem WA.n0 {M : Int} {a : Int → Int} (h : WA M a) : 0 ≤ a 0 ∧ a 0 ≤ 6 := h.1.1
theorem WA.n1 {M : Int} {a : Int → Int} (h : WA M a) : 0 ≤ a 1 ∧ a 1 ≤ 6 := h.1.2.1
theorem WA.n2 {M : Int} {a : Int → Int} (h : WA M a) : 0 ≤ a 2 ∧ a 2 ≤ 4 := h.1.2.2.1
theorem WA.n3 {M : Int} {a : Int → Int} (h : WA M a) : 0 ≤ a 3 ∧ a 3 ≤ M := h.1.2.2.2.1
theorem WA.n4 {M : Int} {a : Int → Int} (h : WA M a) : 0 ≤ a 54 ∧ a 54 ≤ 5 := h.1.2.2.2.2.1
theorem WA.n5 {M : Int} {a : Int → Int} (h : WA M a) : 0 ≤ a 70 ∧ a 70 ≤ 6 := h.1.2.2.2.2.2.1
theorem WA.n6 {M : Int} {a : Int → Int} (h : WA M a) : 0 ≤ a 95 ∧ a 95 ≤ 6 := h.1.2.2.2.2.2.2.1
theorem WA.n7 {M : Int} {a : Int → Int} (h : WA M a) : 0 ≤ a 120 ∧ a 120 ≤ 8 := h.1.2.2.2.2.2.2.2
theorem WA.gl {M : Int} {a : Int → Int} (h : WA M a) {i : Int} (i0 : 0 ≤ i) (i1 : i < a 1) : inC (sGl a i) := by
  have := h.2.2.1 i i0 i1
  unfold sGl
  split
  · exact this.2.1
  · exact this.2.2.1
theorem sAt_in {M : Int} {a : Int → Int} (h : WA M a) {i : Int} (i0 : 0 ≤ i) (i1 : i < a 1) : ∀ n, inC (sAt a i n)
  | 0 => (h.2.2.1 i i0 i1).2.2.2.1
  | n + 1 => sNx_in (sAt_in h i0 i1 n)
theorem WA.pass {M : Int} {a : Int → Int} (h : WA M a) (hM : 0 ≤ M) : WA (M + 1) (sPass a) := by
  obtain ⟨⟨n0, n1, n2, n3, n4, n5, n6, n7⟩, h0, h1, h2, h3, h4, h5, h6⟩ := h
  have e : ∀ j, ¬ (34 ≤ j ∧ j < 40) → j ≠ 3 → sPass a j = a j := fun j q q3 => sPass_n q n1.2 q3
  refine ⟨?_, ?_, ?_, ?_, ?_, ?_, ?_, ?_⟩
  · rw [e 0 (by omega) (by omega), e 1 (by omega) (by omega), e 2 (by omega) (by omega), sPass_3, e 54 (by omega) (by omega), e 70 (by omega) (by omega), e 95 (by omega) (by omega), e 120 (by omega) (by omega)]
    exact ⟨n0, n1, n2, by omega, n4, n5, n6, n7⟩
  · intro k k0 k1
    rw [e 0 (by omega) (by omega)] at k1
    rw [e _ (by omega) (by omega), e _ (by omega) (by omega)]
    exact h0 k k0 k1
  · intro i i0 i1
    rw [e 1 (by omega) (by omega)] at i1
    have := h1 i i0 i1
    rw [e (16 + i) (by omega) (by omega), e (22 + i) (by omega) (by omega), e (28 + i) (by omega) (by omega), e (40 + i) (by omega) (by omega), sPass_at i0 i1]
    exact ⟨this.1, this.2.1, this.2.2.1, sNx_in this.2.2.2.1, this.2.2.2.2⟩
  · intro k k0 k1
    rw [e 2 (by omega) (by omega)] at k1
    rw [e _ (by omega) (by omega), e _ (by omega) (by omega)]
    exact h2 k k0 k1
  · intro k k0 k1
    rw [e 54 (by omega) (by omega)] at k1
    rw [e (55 + 3 * k) (by omega) (by omega), e (56 + 3 * k) (by omega) (by omega), e (57 + 3 * k) (by omega) (by omega), e 2 (by omega) (by omega)]
    exact h3 k k0 k1
  · intro k k0 k1
    rw [e 70 (by omega) (by omega)] at k1
    rw [e (71 + 4 * k) (by omega) (by omega), e (72 + 4 * k) (by omega) (by omega), e (73 + 4 * k) (by omega) (by omega), e (74 + 4 * k) (by omega) (by omega), e 1 (by omega) (by omega)]
    exact h4 k k0 k1
  · intro k k0 k1
    rw [e 95 (by omega) (by omega)] at k1
    rw [e (96 + 4 * k) (by omega) (by omega), e (97 + 4 * k) (by omega) (by omega), e (98 + 4 * k) (by omega) (by omega), e (99 + 4 * k) (by omega) (by omega), e 2 (by omega) (by omega)]
    exact h5 k k0 k1
  · intro u u0 u1
    rw [e 120 (by omega) (by omega)] at u1
    have := h6 u u0 u1
    rw [e _ (by omega) (by omega), e 0 (by omega) (by omega), e 1 (by omega) (by omega)]
    refine ⟨⟨this.1.1, by omega⟩, fun k k0 k1 => ?_, fun i i0 i1 => ?_⟩
    · rw [e _ (by omega) (by omega)]
      exact this.2.1 k k0 k1
    · rw [e _ (by omega) (by omega), e _ (by omega) (by omega)]
      exact this.2.2 i i0 i1
theorem WA.passes {M : Int} {a : Int → Int} (h : WA M a) (hM : 0 ≤ M) : ∀ n : Nat, WA (M + n) (sPs n a)
  | 0 => by simpa [sPs] using h
  | n + 1 => by
    have := (WA.passes h hM n).pass (by omega)
    rw [show M + ((n + 1 : Nat) : Int) = M + n + 1 by omega]
    exact this
