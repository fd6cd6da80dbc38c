/-! ===== 16: shortest ways, pure ===== -/
def inC (c : Int) : Prop := 0 ≤ c ∧ c < 20
/-- a way of n steps leads from one of S to c -/
def sP (adj : Int → Int → Prop) (S : Int → Prop) : Nat → Int → Prop
  | 0, c => inC c ∧ S c
  | n + 1, c => inC c ∧ ∃ b, sP adj S n b ∧ adj b c
/-- d is how far c is; -1: there is no way -/
def isD (adj : Int → Int → Prop) (S : Int → Prop) (c d : Int) : Prop := (d = -1 ∧ ∀ n, ¬ sP adj S n c) ∨ (0 ≤ d ∧ sP adj S d.toNat c ∧ ∀ n : Nat, sP adj S n c → d ≤ n)
theorem sP_in {adj : Int → Int → Prop} {S : Int → Prop} : ∀ {n : Nat} {c : Int}, sP adj S n c → inC c
  | 0, _, h => h.1
  | _ + 1, _, h => h.1
theorem isD_u {adj : Int → Int → Prop} {S : Int → Prop} {c d d' : Int} (h : isD adj S c d) (h' : isD adj S c d') : d = d' := by
  rcases h with ⟨h1, h2⟩ | ⟨h1, h2, h3⟩ <;> rcases h' with ⟨g1, g2⟩ | ⟨g1, g2, g3⟩
  · omega
  · exact absurd g2 (h2 _)
  · exact absurd h2 (g2 _)
  · have a1 := h3 _ g2
    have a2 := g3 _ h2
    omega
theorem isD_ex (adj : Int → Int → Prop) (S : Int → Prop) (c : Int) : ∃ d, isD adj S c d := by
  by_cases h : ∃ n, sP adj S n c
  · have key : ∀ n, sP adj S n c → ∃ d, isD adj S c d := by
      intro n
      induction n using Nat.strongRecOn with
      | _ n ih =>
        intro hn
        by_cases hm : ∃ m, m < n ∧ sP adj S m c
        · obtain ⟨m, hm1, hm2⟩ := hm
          exact ih m hm1 hm2
        · refine ⟨n, Or.inr ⟨by omega, by rw [Int.toNat_natCast]; exact hn, fun k hk => ?_⟩⟩
          by_cases q : k < n
          · exact absurd ⟨k, q, hk⟩ hm
          · omega
    obtain ⟨n, hn⟩ := h
    exact key n hn
  · exact ⟨-1, Or.inl ⟨rfl, fun n hn => h ⟨n, hn⟩⟩⟩
noncomputable def sd (adj : Int → Int → Prop) (S : Int → Prop) (c : Int) : Int := Classical.choose (isD_ex adj S c)
theorem sd_is (adj : Int → Int → Prop) (S : Int → Prop) (c : Int) : isD adj S c (sd adj S c) := Classical.choose_spec (isD_ex adj S c)
theorem sd_of {adj : Int → Int → Prop} {S : Int → Prop} {c d : Int} (h : isD adj S c d) : sd adj S c = d := isD_u (sd_is adj S c) h
theorem sP_congr {adj adj' : Int → Int → Prop} {S S' : Int → Prop} (h : ∀ x y, inC x → inC y → (adj x y ↔ adj' x y)) (hS : ∀ c, inC c → (S c ↔ S' c)) : ∀ (n : Nat) (c : Int), sP adj S n c ↔ sP adj' S' n c
  | 0, c => ⟨fun q => ⟨q.1, (hS c q.1).mp q.2⟩, fun q => ⟨q.1, (hS c q.1).mpr q.2⟩⟩
  | n + 1, c => by
    have ih := sP_congr h hS n
    constructor
    · rintro ⟨h1, b, h2, h3⟩
      exact ⟨h1, b, (ih b).mp h2, (h b c (sP_in h2) h1).mp h3⟩
    · rintro ⟨h1, b, h2, h3⟩
      exact ⟨h1, b, (ih b).mpr h2, (h b c (sP_in h2) h1).mpr h3⟩
theorem sd_congr {adj adj' : Int → Int → Prop} {S S' : Int → Prop} (h : ∀ x y, inC x → inC y → (adj x y ↔ adj' x y)) (hS : ∀ c, inC c → (S c ↔ S' c)) (c : Int) : sd adj S c = sd adj' S' c := by
  refine sd_of ?_
  have e := sP_congr h hS
  rcases sd_is adj' S' c with ⟨h1, h2⟩ | ⟨h1, h2, h3⟩
  · exact Or.inl ⟨h1, fun n hn => h2 n ((e n c).mp hn)⟩
  · exact Or.inr ⟨h1, (e _ c).mpr h2, fun n hn => h3 n ((e n c).mp hn)⟩
/-- how many of the first n are not u -/
def zcn (u : Int) (d : Int → Int) : Nat → Int
  | 0 => 0
  | n + 1 => zcn u d n + (if d n = u then 0 else 1)
theorem zcn_le (u : Int) (d : Int → Int) : ∀ n, 0 ≤ zcn u d n ∧ zcn u d n ≤ n
  | 0 => ⟨Int.le_refl _, Int.le_refl _⟩
  | n + 1 => by
    have := zcn_le u d n
    unfold zcn
    split <;> omega
theorem zcn_eq (u : Int) {d d' : Int → Int} : ∀ n : Nat, (∀ k : Nat, k < n → d k = d' k) → zcn u d n = zcn u d' n
  | 0, _ => rfl
  | n + 1, h => by
    unfold zcn
    rw [zcn_eq u n (fun k hk => h k (by omega)), h n (by omega)]
theorem zcn_up (u : Int) {d d' : Int → Int} {b : Int} (hb : 0 ≤ b) (h1 : d b = u) (h2 : d' b ≠ u) (h3 : ∀ c, c ≠ b → d' c = d c) : ∀ n : Nat, b < n → zcn u d' n = zcn u d n + 1
  | 0, h => by omega
  | n + 1, h => by
    unfold zcn
    by_cases e : b = n
    · rw [← e, h1, if_pos rfl, if_neg h2]
      have : zcn u d' n = zcn u d n := zcn_eq u n (fun k hk => h3 k (by omega))
      omega
    · rw [h3 n (by omega)]
      have := zcn_up u hb h1 h2 h3 n (by omega)
      omega
def fU (f : Int → Int) (k x : Int) : Int → Int := fun j => if j = k then x else f j
theorem fU_s {f : Int → Int} {k x : Int} : fU f k x k = x := by simp [fU]
theorem fU_n {f : Int → Int} {k x j : Int} (h : j ≠ k) : fU f k x j = f j := by simp [fU, h]
/-- the search's invariant: u is what stands where nobody was yet -/
def bI (adj : Int → Int → Prop) (S : Int → Prop) (u : Int) (d q : Int → Int) (h t : Int) : Prop :=
  (0 ≤ h ∧ h ≤ t ∧ t = zcn u d 20) ∧
  (∀ i, 0 ≤ i → i < t → inC (q i) ∧ d (q i) ≠ u) ∧
  (∀ c, inC c → d c ≠ u → (∃ i, 0 ≤ i ∧ i < t ∧ q i = c) ∧ 0 ≤ d c ∧ d c < t ∧ sP adj S (d c).toNat c) ∧
  (∀ c, inC c → S c → d c = 0) ∧
  (∀ i j, 0 ≤ i → i ≤ j → j < t → d (q i) ≤ d (q j)) ∧
  (∀ j, 0 ≤ j → j < t → h < t → d (q j) ≤ d (q h) + 1) ∧
  (∀ i b, 0 ≤ i → i < h → inC b → adj (q i) b → d b ≠ u ∧ d b ≤ d (q i) + 1)
theorem bI_t {adj : Int → Int → Prop} {S : Int → Prop} {u : Int} {d q : Int → Int} {h t : Int} (I : bI adj S u d q h t) : t ≤ 20 := by
  have := (zcn_le u d 20).2
  have := I.1.2.2
  omega
theorem bI_visit {adj : Int → Int → Prop} {S : Int → Prop} {u : Int} {d q : Int → Int} {h t b : Int} (hu : u < 0 ∨ 20 < u) (I : bI adj S u d q h t) (hh : h < t) (hb : inC b) (ha : adj (q h) b) (hn : d b = u) : t < 20 ∧ bI adj S u (fU d b (d (q h) + 1)) (fU q t b) h (t + 1) := by
  have ht := bI_t I
  obtain ⟨⟨i1, i2, i3⟩, i4, i5, i6, i7, i8, i9⟩ := I
  have hqh := i4 h i1 hh
  obtain ⟨-, d0, d1, d2⟩ := i5 _ hqh.1 hqh.2
  have hnew : d (q h) + 1 ≠ u := by omega
  have hcn : zcn u (fU d b (d (q h) + 1)) 20 = zcn u d 20 + 1 := zcn_up u hb.1 hn (by rw [fU_s]; exact hnew) (fun c hc => fU_n hc) 20 hb.2
  have hle := (zcn_le u (fU d b (d (q h) + 1)) 20).2
  have ht20 : t < 20 := by omega
  have hne : ∀ i, 0 ≤ i → i < t → q i ≠ b := fun i h0 h1 e => (i4 i h0 h1).2 (by rw [e]; exact hn)
  have qo : ∀ i, i < t → fU q t b i = q i := fun i hi => fU_n (by omega)
  have dq : ∀ i, 0 ≤ i → i < t → fU d b (d (q h) + 1) (q i) = d (q i) := fun i h0 h1 => fU_n (hne i h0 h1)
  refine ⟨ht20, ⟨by omega, by omega, by omega⟩, ?_, ?_, ?_, ?_, ?_, ?_⟩
  · intro i h0 h1
    by_cases e : i = t
    · subst e
      rw [fU_s, fU_s]
      exact ⟨hb, hnew⟩
    · rw [qo i (by omega), dq i h0 (by omega)]
      exact i4 i h0 (by omega)
  · intro c hc hv
    by_cases e : c = b
    · subst e
      rw [fU_s]
      refine ⟨⟨t, by omega, by omega, fU_s⟩, by omega, by omega, ?_⟩
      have e2 : (d (q h) + 1).toNat = (d (q h)).toNat + 1 := by omega
      rw [e2]
      exact ⟨hb, q h, d2, ha⟩
    · rw [fU_n e] at hv ⊢
      obtain ⟨⟨i, h0, h1, h2⟩, h3, h4, h5⟩ := i5 c hc hv
      exact ⟨⟨i, h0, by omega, by rw [qo i h1]; exact h2⟩, h3, by omega, h5⟩
  · intro c hc hS
    have h0 := i6 c hc hS
    have e : c ≠ b := by
      intro e
      rw [e, hn] at h0
      omega
    rw [fU_n e]
    exact h0
  · intro i j h0 h1 h2
    by_cases e : j = t
    · subst e
      rw [fU_s, fU_s]
      by_cases e2 : i = j
      · subst e2
        rw [fU_s, fU_s]
        omega
      · rw [qo i (by omega), dq i h0 (by omega)]
        exact i8 i h0 (by omega) hh
    · rw [qo i (by omega), qo j (by omega), dq i h0 (by omega), dq j (by omega) (by omega)]
      exact i7 i j h0 h1 (by omega)
  · intro j h0 h1 _
    rw [qo h (by omega), dq h i1 hh]
    by_cases e : j = t
    · subst e
      rw [fU_s, fU_s]
      omega
    · rw [qo j (by omega), dq j h0 (by omega)]
      exact i8 j h0 (by omega) hh
  · intro i c h0 h1 hc had
    rw [qo i (by omega)] at had ⊢
    rw [dq i h0 (by omega)]
    obtain ⟨g1, g2⟩ := i9 i c h0 h1 hc had
    have e : c ≠ b := fun e => g1 (by rw [e]; exact hn)
    rw [fU_n e]
    exact ⟨g1, g2⟩
/-- a cell that was there before is near enough -/
theorem bI_old {adj : Int → Int → Prop} {S : Int → Prop} {u : Int} {d q : Int → Int} {h t b : Int} (I : bI adj S u d q h t) (hh : h < t) (hb : inC b) (hn : d b ≠ u) : d b ≤ d (q h) + 1 := by
  obtain ⟨⟨i, h0, h1, h2⟩, -⟩ := I.2.2.1 b hb hn
  rw [← h2]
  exact I.2.2.2.2.2.1 i h0 h1 hh
theorem bI_next {adj : Int → Int → Prop} {S : Int → Prop} {u : Int} {d q : Int → Int} {h t : Int} (I : bI adj S u d q h t) (hh : h < t) (hd : ∀ b, inC b → adj (q h) b → d b ≠ u) : bI adj S u d q (h + 1) t := by
  have hold := fun b hb hn => bI_old (b := b) I hh hb hn
  obtain ⟨⟨i1, i2, i3⟩, i4, i5, i6, i7, i8, i9⟩ := I
  refine ⟨⟨by omega, by omega, i3⟩, i4, i5, i6, i7, fun j h0 h1 h2 => ?_, fun i b h0 h1 hb ha => ?_⟩
  · have a1 := i8 j h0 h1 hh
    have a2 := i7 h (h + 1) i1 (by omega) h2
    omega
  · by_cases e : i = h
    · subst e
      exact ⟨hd b hb ha, hold b hb (hd b hb ha)⟩
    · exact i9 i b h0 (by omega) hb ha
theorem bI_end {adj : Int → Int → Prop} {S : Int → Prop} {u : Int} {d q : Int → Int} {t : Int} (hu : u < 0 ∨ 20 < u) (I : bI adj S u d q t t) {c : Int} (hc : inC c) : sd adj S c = if d c = u then -1 else d c := by
  have comp : ∀ (n : Nat) (c : Int), sP adj S n c → d c ≠ u ∧ d c ≤ n := by
    intro n
    induction n with
    | zero =>
      intro c h
      have h0 := I.2.2.2.1 c h.1 h.2
      omega
    | succ n ih =>
      rintro c ⟨hc, b, h1, h2⟩
      obtain ⟨a1, a2⟩ := ih b h1
      obtain ⟨⟨i, b0, b1, b2⟩, -⟩ := I.2.2.1 b (sP_in h1) a1
      rw [← b2] at h2 a2
      obtain ⟨c1, c2⟩ := I.2.2.2.2.2.2 i c b0 b1 hc h2
      exact ⟨c1, by omega⟩
  refine sd_of ?_
  by_cases h : d c = u
  · rw [if_pos h]
    exact Or.inl ⟨rfl, fun n hn => (comp n c hn).1 h⟩
  · rw [if_neg h]
    obtain ⟨-, h1, -, h3⟩ := I.2.2.1 c hc h
    exact Or.inr ⟨h1, h3, fun n hn => (comp n c hn).2⟩
