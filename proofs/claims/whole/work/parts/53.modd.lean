/-! ===== 53: odds: all sets of ladders against floor by floor (pure) ===== -/
theorem zsum_app {f : Int → Int} (m : Nat) : ∀ n : Nat, zsum (m + n) f = zsum m f + zsum n (fun k => f (m + k))
  | 0 => by show zsum m f = zsum m f + 0; omega
  | n + 1 => by
    show zsum (m + n) f + f ((m + n : Nat) : Int) = zsum m f + (zsum n (fun k => f (m + k)) + f (m + n))
    rw [zsum_app m n, show ((m + n : Nat) : Int) = (m : Int) + n by omega]
    omega
theorem zsum_mul {f : Int → Int} {c : Int} : ∀ n : Nat, zsum n (fun k => c * f k) = c * zsum n f
  | 0 => by show (0 : Int) = c * 0; omega
  | n + 1 => by
    show zsum n (fun k => c * f k) + c * f n = c * (zsum n f + f n)
    rw [zsum_mul n, Int.mul_add]
theorem zp2 (n : Nat) : ((2 ^ n : Nat) : Int) = (2 : Int) ^ n := by simp
theorem zbt_top {t : Int} {n : Nat} (t0 : 0 ≤ t) (t1 : t < 2 ^ n) : zbt t n = 0 ∧ zbt (2 ^ n + t) n = 1 := by
  have hp : (0 : Int) < 2 ^ n := Int.pow_pos (by decide)
  unfold zbt
  rw [Int.toNat_natCast, Int.ediv_eq_zero_of_lt t0 t1]
  refine ⟨rfl, ?_⟩
  have := Int.add_mul_ediv_left t (b := (2 : Int) ^ n) 1 (by omega)
  rw [Int.mul_one] at this
  rw [Int.add_comm, this, Int.ediv_eq_zero_of_lt t0 t1]
  rfl
theorem zbt_low {t k : Int} {n : Nat} (k0 : 0 ≤ k) (k1 : k < n) : zbt (2 ^ n + t) k = zbt t k := by
  obtain ⟨q, rfl⟩ := Int.eq_ofNat_of_zero_le k0
  have hp : (0 : Int) < 2 ^ q := Int.pow_pos (by decide)
  unfold zbt
  rw [Int.toNat_natCast]
  have e2 : (2 : Int) ^ n = 2 ^ q * (2 * 2 ^ (n - q - 1)) := by
    rw [← Int.mul_assoc, ← Int.pow_succ, ← Int.pow_add]
    congr 1
    omega
  rw [Int.add_comm, e2, Int.add_mul_ediv_left _ _ (by omega), Int.add_mul_emod_self_left]
def oW (a : Int → Int) (c : Int) : Nat → Int → Int
  | 0, _ => 1
  | n + 1, t => oW a c n t * (if a (10 + n) = 1 then (if zbt t n = 1 then c else 10 - c) else (if zbt t n = 1 then 0 else 1))
theorem oW_s {a : Int → Int} {c t : Int} {n : Nat} : oW a c (n + 1) t = oW a c n t * (if a (10 + n) = 1 then (if zbt t n = 1 then c else 10 - c) else (if zbt t n = 1 then 0 else 1)) := rfl
theorem oW_eq {a : Int → Int} {c t t' : Int} : ∀ n : Nat, (∀ k : Int, 0 ≤ k → k < n → zbt t k = zbt t' k) → oW a c n t = oW a c n t'
  | 0, _ => rfl
  | n + 1, h => by
    rw [oW_s, oW_s, oW_eq n (fun k k0 k1 => h k k0 (by omega)), h n (by omega) (by omega)]
theorem oW_b {a : Int → Int} {c t : Int} (c0 : 0 ≤ c) (c1 : c ≤ 10) : ∀ n : Nat, 0 ≤ oW a c n t ∧ oW a c n t ≤ 10 ^ n
  | 0 => ⟨show (0 : Int) ≤ 1 by decide, show (1 : Int) ≤ 10 ^ 0 by decide⟩
  | n + 1 => by
    have ih := oW_b (a := a) (t := t) c0 c1 n
    have h10 : (0 : Int) < 10 ^ n := Int.pow_pos (by decide)
    rw [oW_s, Int.pow_succ]
    have e : ∀ x : Int, 0 ≤ x → x ≤ 10 → 0 ≤ oW a c n t * x ∧ oW a c n t * x ≤ 10 ^ n * 10 := fun x x0 x1 => ⟨Int.mul_nonneg ih.1 x0, Int.mul_le_mul ih.2 x1 x0 (by omega)⟩
    split
    · split
      · exact e c c0 c1
      · exact e (10 - c) (by omega) (by omega)
    · split
      · exact e 0 (by decide) (by decide)
      · exact e 1 (by decide) (by decide)
def oR (a : Int → Int) (lo hi : Int) (n : Nat) (t : Int) (R : Int → Prop) : Prop := ∀ f, lo ≤ f → f < hi → R f ∨ ∃ k : Int, 0 ≤ k ∧ k < n ∧ a (10 + k) = 1 ∧ a (4 + k) / 4 = f ∧ zbt t k = 0
noncomputable def oT (a : Int → Int) (c lo hi : Int) (n : Nat) (R : Int → Prop) : Int := zsum (2 ^ n) (fun t => cIf (oR a lo hi n t R) (oW a c n t) 0)
theorem cIf_c {p q : Prop} {x y : Int} (h : p ↔ q) (e : x = y) : cIf p x 0 = cIf q y 0 := by
  by_cases g : p
  · rw [cIf_t g, cIf_t (h.mp g), e]
  · rw [cIf_f g, cIf_f (fun w => g (h.mpr w))]
theorem cIf_m {p : Prop} {x c : Int} : cIf p (x * c) 0 = c * cIf p x 0 := by
  by_cases g : p
  · rw [cIf_t g, cIf_t g, Int.mul_comm]
  · rw [cIf_f g, cIf_f g, Int.mul_zero]
theorem oT_s {a : Int → Int} {c lo hi : Int} {n : Nat} {R : Int → Prop} : oT a c lo hi (n + 1) R = if a (10 + n) = 1 then c * oT a c lo hi n R + (10 - c) * oT a c lo hi n (fun f => R f ∨ f = a (4 + n) / 4) else oT a c lo hi n R := by
  have e : oT a c lo hi (n + 1) R = zsum (2 ^ n) (fun t => cIf (oR a lo hi (n + 1) t R) (oW a c (n + 1) t) 0) + zsum (2 ^ n) (fun t => cIf (oR a lo hi (n + 1) (2 ^ n + t) R) (oW a c (n + 1) (2 ^ n + t)) 0) := by
    unfold oT
    rw [show 2 ^ (n + 1) = 2 ^ n + 2 ^ n by omega, zsum_app, zp2]
  have up : ∀ t : Int, 0 ≤ t → t < 2 ^ n → (oR a lo hi (n + 1) (2 ^ n + t) R ↔ oR a lo hi n t R) := fun t t0 t1 => by
    have hb := zbt_top t0 t1
    constructor
    · intro w f f0 f1
      rcases w f f0 f1 with q | ⟨k, k0, k1, k2, k3, k4⟩
      · exact Or.inl q
      · by_cases ek : k = n
        · rw [ek] at k4; omega
        · exact Or.inr ⟨k, k0, by omega, k2, k3, by rw [zbt_low k0 (by omega)] at k4; exact k4⟩
    · intro w f f0 f1
      rcases w f f0 f1 with q | ⟨k, k0, k1, k2, k3, k4⟩
      · exact Or.inl q
      · exact Or.inr ⟨k, k0, by omega, k2, k3, by rw [zbt_low k0 (by omega)]; exact k4⟩
  have wu : ∀ t : Int, 0 ≤ t → t < 2 ^ n → oW a c (n + 1) (2 ^ n + t) = oW a c n t * (if a (10 + n) = 1 then c else 0) := fun t t0 t1 => by
    have hb := zbt_top t0 t1
    rw [oW_s, oW_eq n (fun k k0 k1 => zbt_low (t := t) k0 k1), hb.2, if_pos (c := (1 : Int) = 1) rfl, if_pos (c := (1 : Int) = 1) rfl]
  have wd : ∀ t : Int, 0 ≤ t → t < 2 ^ n → oW a c (n + 1) t = oW a c n t * (if a (10 + n) = 1 then 10 - c else 1) := fun t t0 t1 => by
    have hb := zbt_top t0 t1
    rw [oW_s, hb.1, if_neg (c := (0 : Int) = 1) (by decide), if_neg (c := (0 : Int) = 1) (by decide)]
  rw [e]
  by_cases hd : a (10 + n) = 1
  · rw [if_pos hd]
    have dn : ∀ t : Int, 0 ≤ t → t < 2 ^ n → (oR a lo hi (n + 1) t R ↔ oR a lo hi n t (fun f => R f ∨ f = a (4 + n) / 4)) := fun t t0 t1 => by
      have hb := zbt_top t0 t1
      constructor
      · intro w f f0 f1
        rcases w f f0 f1 with q | ⟨k, k0, k1, k2, k3, k4⟩
        · exact Or.inl (Or.inl q)
        · by_cases ek : k = n
          · rw [ek] at k3; exact Or.inl (Or.inr k3.symm)
          · exact Or.inr ⟨k, k0, by omega, k2, k3, k4⟩
      · intro w f f0 f1
        rcases w f f0 f1 with (q | q) | ⟨k, k0, k1, k2, k3, k4⟩
        · exact Or.inl q
        · exact Or.inr ⟨n, by omega, by omega, hd, q.symm, hb.1⟩
        · exact Or.inr ⟨k, k0, by omega, k2, k3, k4⟩
    rw [zsum_eq (f' := fun t => (10 - c) * cIf (oR a lo hi n t (fun f => R f ∨ f = a (4 + n) / 4)) (oW a c n t) 0) (2 ^ n) (fun t t0 t1 => by
      rw [zp2] at t1
      rw [cIf_c (dn t t0 t1) (wd t t0 t1), if_pos hd, cIf_m])]
    rw [zsum_eq (f := fun t => cIf (oR a lo hi (n + 1) (2 ^ n + t) R) (oW a c (n + 1) (2 ^ n + t)) 0) (f' := fun t => c * cIf (oR a lo hi n t R) (oW a c n t) 0) (2 ^ n) (fun t t0 t1 => by
      rw [zp2] at t1
      rw [cIf_c (up t t0 t1) (wu t t0 t1), if_pos hd, cIf_m])]
    rw [zsum_mul, zsum_mul]
    unfold oT
    omega
  · rw [if_neg hd]
    have dn : ∀ t : Int, 0 ≤ t → t < 2 ^ n → (oR a lo hi (n + 1) t R ↔ oR a lo hi n t R) := fun t t0 t1 => by
      constructor
      · intro w f f0 f1
        rcases w f f0 f1 with q | ⟨k, k0, k1, k2, k3, k4⟩
        · exact Or.inl q
        · by_cases ek : k = n
          · rw [ek] at k2; exact absurd k2 hd
          · exact Or.inr ⟨k, k0, by omega, k2, k3, k4⟩
      · intro w f f0 f1
        rcases w f f0 f1 with q | ⟨k, k0, k1, k2, k3, k4⟩
        · exact Or.inl q
        · exact Or.inr ⟨k, k0, by omega, k2, k3, k4⟩
    rw [zsum_eq (f' := fun t => cIf (oR a lo hi n t R) (oW a c n t) 0) (2 ^ n) (fun t t0 t1 => by
      rw [zp2] at t1
      rw [cIf_c (dn t t0 t1) (wd t t0 t1), if_neg hd, Int.mul_one])]
    rw [zsum_eq (f := fun t => cIf (oR a lo hi (n + 1) (2 ^ n + t) R) (oW a c (n + 1) (2 ^ n + t)) 0) (f' := fun t => 0 * cIf (oR a lo hi n t R) (oW a c n t) 0) (2 ^ n) (fun t t0 t1 => by
      rw [zp2] at t1
      rw [cIf_c (up t t0 t1) (wu t t0 t1), if_neg hd, cIf_m])]
    rw [zsum_mul, Int.zero_mul, Int.add_zero]
    rfl
/-- products -/
def zprd : Nat → (Int → Int) → Int
  | 0, _ => 1
  | n + 1, f => zprd n f * f n
theorem zprd_eq {f g : Int → Int} : ∀ n : Nat, (∀ k : Int, 0 ≤ k → k < n → f k = g k) → zprd n f = zprd n g
  | 0, _ => rfl
  | n + 1, h => by
    unfold zprd
    rw [zprd_eq n (fun k k0 k1 => h k k0 (by omega)), h n (by omega) (by omega)]
theorem zprd_lin {g1 g2 g3 : Int → Int} {i c d : Int} (i0 : 0 ≤ i) (h2 : ∀ k, k ≠ i → g2 k = g1 k) (h3 : ∀ k, k ≠ i → g3 k = g1 k) (hi : g1 i = c * g2 i + d * g3 i) : ∀ n : Nat, i < n → zprd n g1 = c * zprd n g2 + d * zprd n g3
  | 0, h => by omega
  | n + 1, h => by
    unfold zprd
    by_cases e : i = n
    · rw [zprd_eq (f := g2) (g := g1) n (fun k k0 k1 => h2 k (by omega)), zprd_eq (f := g3) (g := g1) n (fun k k0 k1 => h3 k (by omega)), ← e, hi, Int.mul_add, Int.mul_left_comm, Int.mul_left_comm (zprd n g1) d]
    · rw [zprd_lin i0 h2 h3 hi n (by omega), h2 n (by omega), h3 n (by omega), Int.add_mul, Int.mul_assoc, Int.mul_assoc]
theorem zprd_01 {p : Int → Prop} : ∀ n : Nat, zprd n (fun i => cIf (p i) 1 0) = cIf (∀ i, 0 ≤ i → i < (n : Int) → p i) 1 0
  | 0 => by rw [cIf_t (fun i i0 i1 => by omega)]; rfl
  | n + 1 => by
    show zprd n (fun i => cIf (p i) 1 0) * cIf (p n) 1 0 = _
    rw [zprd_01 n]
    by_cases h : ∀ i, 0 ≤ i → i < (n : Int) → p i
    · by_cases h2 : p n
      · rw [cIf_t h, cIf_t h2, cIf_t (fun i i0 i1 => by
          by_cases e : i = n
          · rw [e]; exact h2
          · exact h i i0 (by omega))]
        rfl
      · have h3 : ¬ ∀ i, 0 ≤ i → i < ((n + 1 : Nat) : Int) → p i := fun w => h2 (w n (by omega) (by omega))
        rw [cIf_f h2, cIf_f h3, Int.mul_zero]
    · have h3 : ¬ ∀ i, 0 ≤ i → i < ((n + 1 : Nat) : Int) → p i := fun w => h fun i i0 i1 => w i i0 (by omega)
      rw [cIf_f h, cIf_f h3, Int.zero_mul]
/-- of the first n ladders: b for each that is down on floor f -/
def oA (a : Int → Int) (b : Int) : Nat → Int → Int
  | 0, _ => 1
  | n + 1, f => if a (10 + n) = 1 ∧ a (4 + n) / 4 = f then b * oA a b n f else oA a b n f
theorem oA_s {a : Int → Int} {b f : Int} {n : Nat} : oA a b (n + 1) f = if a (10 + n) = 1 ∧ a (4 + n) / 4 = f then b * oA a b n f else oA a b n f := rfl
def oO (a : Int → Int) (lo hi : Int) : Nat → Int
  | 0 => 1
  | n + 1 => if a (10 + n) = 1 ∧ ¬ (lo ≤ a (4 + n) / 4 ∧ a (4 + n) / 4 < hi) then 10 * oO a lo hi n else oO a lo hi n
theorem oO_s {a : Int → Int} {lo hi : Int} {n : Nat} : oO a lo hi (n + 1) = if a (10 + n) = 1 ∧ ¬ (lo ≤ a (4 + n) / 4 ∧ a (4 + n) / 4 < hi) then 10 * oO a lo hi n else oO a lo hi n := rfl
def oD (a : Int → Int) : Nat → Int
  | 0 => 1
  | n + 1 => oD a n * (if a (10 + n) = 1 then 10 else 1)
theorem oT_cl {a : Int → Int} {c lo : Int} {m : Nat} : ∀ (n : Nat) (R : Int → Prop), oT a c lo (lo + m) n R = oO a lo (lo + m) n * zprd m (fun i => cIf (R (lo + i)) (oA a 10 n (lo + i)) (oA a 10 n (lo + i) - oA a c n (lo + i)))
  | 0, R => by
    show zsum 1 (fun t => cIf (oR a lo (lo + m) 0 t R) 1 0) = 1 * zprd m (fun i => cIf (R (lo + i)) 1 (1 - 1))
    rw [Int.one_mul]
    show 0 + cIf (oR a lo (lo + m) 0 0 R) 1 0 = zprd m (fun i => cIf (R (lo + i)) 1 0)
    rw [zprd_01 m, Int.zero_add]
    refine cIf_c ⟨fun w i i0 i1 => ?_, fun w f f0 f1 => Or.inl ?_⟩ rfl
    · rcases w (lo + i) (by omega) (by omega) with q | ⟨k, k0, k1, _⟩
      · exact q
      · omega
    · have := w (f - lo) (by omega) (by omega)
      rw [show lo + (f - lo) = f by omega] at this
      exact this
  | n + 1, R => by
    rw [oT_s]
    by_cases hd : a (10 + n) = 1
    · rw [if_pos hd, oT_cl n, oT_cl n]
      by_cases hf : lo ≤ a (4 + n) / 4 ∧ a (4 + n) / 4 < lo + m
      · have eO : oO a lo (lo + m) (n + 1) = oO a lo (lo + m) n := by
          rw [oO_s, if_neg (fun w => w.2 hf)]
        rw [eO]
        have key := zprd_lin (g1 := fun i => cIf (R (lo + i)) (oA a 10 (n + 1) (lo + i)) (oA a 10 (n + 1) (lo + i) - oA a c (n + 1) (lo + i))) (g2 := fun i => cIf (R (lo + i)) (oA a 10 n (lo + i)) (oA a 10 n (lo + i) - oA a c n (lo + i))) (g3 := fun i => cIf (R (lo + i) ∨ lo + i = a (4 + n) / 4) (oA a 10 n (lo + i)) (oA a 10 n (lo + i) - oA a c n (lo + i))) (i := a (4 + n) / 4 - lo) (c := c) (d := 10 - c) (by omega) ?_ ?_ ?_ m (by omega)
        · rw [key, Int.mul_add, Int.mul_left_comm, Int.mul_left_comm (oO a lo (lo + m) n) (10 - c)]
        · intro k hk
          simp only [oA_s]
          rw [if_neg (fun w => hk (by omega)), if_neg (fun w => hk (by omega))]
        · intro k hk
          simp only [oA_s]
          rw [if_neg (fun w => hk (by omega)), if_neg (fun w => hk (by omega))]
          by_cases g : R (lo + k)
          · rw [cIf_t g, cIf_t (Or.inl g)]
          · rw [cIf_f g, cIf_f (fun w => w.elim g fun w => hk (by omega))]
        · have el : lo + (a (4 + n) / 4 - lo) = a (4 + n) / 4 := by omega
          rw [el, cIf_t (Or.inr rfl)]
          simp only [oA_s]
          rw [if_pos ⟨hd, trivial⟩, if_pos ⟨hd, trivial⟩]
          by_cases g : R (a (4 + n) / 4)
          · rw [cIf_t g, cIf_t g]
            rw [Int.sub_mul]
            omega
          · rw [cIf_f g, cIf_f g, Int.mul_sub, Int.sub_mul]
            omega
      · have eO : oO a lo (lo + m) (n + 1) = 10 * oO a lo (lo + m) n := by
          show (if a (10 + n) = 1 ∧ ¬ (lo ≤ a (4 + n) / 4 ∧ a (4 + n) / 4 < lo + m) then 10 * oO a lo (lo + m) n else oO a lo (lo + m) n) = _
          rw [if_pos ⟨hd, hf⟩]
        have e1 : zprd m (fun i => cIf (R (lo + i) ∨ lo + i = a (4 + n) / 4) (oA a 10 n (lo + i)) (oA a 10 n (lo + i) - oA a c n (lo + i))) = zprd m (fun i => cIf (R (lo + i)) (oA a 10 n (lo + i)) (oA a 10 n (lo + i) - oA a c n (lo + i))) := zprd_eq m fun k k0 k1 => by
          by_cases g : R (lo + k)
          · rw [cIf_t g, cIf_t (Or.inl g)]
          · rw [cIf_f g, cIf_f (fun w => w.elim g fun w => hf (by omega))]
        have e2 : zprd m (fun i => cIf (R (lo + i)) (oA a 10 (n + 1) (lo + i)) (oA a 10 (n + 1) (lo + i) - oA a c (n + 1) (lo + i))) = zprd m (fun i => cIf (R (lo + i)) (oA a 10 n (lo + i)) (oA a 10 n (lo + i) - oA a c n (lo + i))) := zprd_eq m fun k k0 k1 => by
          simp only [oA_s]
          rw [if_neg (fun w => hf (by omega)), if_neg (fun w => hf (by omega))]
        rw [e1, e2, eO, ← Int.add_mul, show c + (10 - c) = 10 by omega, Int.mul_assoc]
    · have e2 : zprd m (fun i => cIf (R (lo + i)) (oA a 10 (n + 1) (lo + i)) (oA a 10 (n + 1) (lo + i) - oA a c (n + 1) (lo + i))) = zprd m (fun i => cIf (R (lo + i)) (oA a 10 n (lo + i)) (oA a 10 n (lo + i) - oA a c n (lo + i))) := zprd_eq m fun k k0 k1 => by
        simp only [oA_s]
        rw [if_neg (fun w => hd w.1), if_neg (fun w => hd w.1)]
      have eO : oO a lo (lo + m) (n + 1) = oO a lo (lo + m) n := by
        rw [oO_s, if_neg (fun w => hd w.1)]
      rw [if_neg hd, oT_cl n, e2, eO]
theorem oD_cl {a : Int → Int} {lo : Int} {m : Nat} : ∀ n : Nat, oD a n = oO a lo (lo + m) n * zprd m (fun i => oA a 10 n (lo + i))
  | 0 => by
    have : ∀ m : Nat, zprd m (fun i => oA a 10 0 (lo + i)) = 1 := by
      intro m
      induction m with
      | zero => rfl
      | succ m ih => show zprd m (fun i => oA a 10 0 (lo + i)) * 1 = 1; rw [ih]; rfl
    rw [this]
    rfl
  | n + 1 => by
    have ih := oD_cl (a := a) (lo := lo) (m := m) n
    show oD a n * (if a (10 + n) = 1 then 10 else 1) = _
    by_cases hd : a (10 + n) = 1
    · rw [if_pos hd, ih]
      by_cases hf : lo ≤ a (4 + n) / 4 ∧ a (4 + n) / 4 < lo + m
      · have eO : oO a lo (lo + m) (n + 1) = oO a lo (lo + m) n := by
          rw [oO_s, if_neg (fun w => w.2 hf)]
        have key := zprd_lin (g1 := fun i => oA a 10 (n + 1) (lo + i)) (g2 := fun i => oA a 10 n (lo + i)) (g3 := fun i => oA a 10 n (lo + i)) (i := a (4 + n) / 4 - lo) (c := 10) (d := 0) (by omega) ?_ ?_ ?_ m (by omega)
        · rw [key, eO, Int.zero_mul, Int.add_zero, Int.mul_comm, Int.mul_left_comm]
        · intro k hk
          simp only [oA_s]
          rw [if_neg (fun w => hk (by omega))]
        · intro k hk
          simp only [oA_s]
          rw [if_neg (fun w => hk (by omega))]
        · have el : lo + (a (4 + n) / 4 - lo) = a (4 + n) / 4 := by omega
          rw [el]
          simp only [oA_s]
          rw [if_pos ⟨hd, trivial⟩]
          omega
      · have eO : oO a lo (lo + m) (n + 1) = 10 * oO a lo (lo + m) n := by
          show (if a (10 + n) = 1 ∧ ¬ (lo ≤ a (4 + n) / 4 ∧ a (4 + n) / 4 < lo + m) then 10 * oO a lo (lo + m) n else oO a lo (lo + m) n) = _
          rw [if_pos ⟨hd, hf⟩]
        have e2 : zprd m (fun i => oA a 10 (n + 1) (lo + i)) = zprd m (fun i => oA a 10 n (lo + i)) := zprd_eq m fun k k0 k1 => by
          simp only [oA_s]
          rw [if_neg (fun w => hf (by omega))]
        rw [e2, eO, Int.mul_comm, Int.mul_assoc]
    · have e2 : zprd m (fun i => oA a 10 (n + 1) (lo + i)) = zprd m (fun i => oA a 10 n (lo + i)) := zprd_eq m fun k k0 k1 => by
        simp only [oA_s]
        rw [if_neg (fun w => hd w.1)]
      have eO : oO a lo (lo + m) (n + 1) = oO a lo (lo + m) n := by
        rw [oO_s, if_neg (fun w => hd w.1)]
      rw [if_neg hd, Int.mul_one, ih, e2, eO]
theorem oO_pos {a : Int → Int} {lo hi : Int} : ∀ n : Nat, 0 < oO a lo hi n
  | 0 => show (0 : Int) < 1 by decide
  | n + 1 => by
    have := oO_pos (a := a) (lo := lo) (hi := hi) n
    rw [oO_s]
    split <;> omega
theorem oA_pw {a : Int → Int} {b f : Int} : ∀ n : Nat, oA a b n f = b ^ (zsum n (fun k => if k ≠ -1 ∧ a (10 + k) = 1 ∧ a (4 + k) / 4 = f then 1 else 0)).toNat
  | 0 => by show (1 : Int) = b ^ (0 : Int).toNat; rw [show (0 : Int).toNat = 0 from rfl, Int.pow_zero]
  | n + 1 => by
    have ih := oA_pw (a := a) (b := b) (f := f) n
    have zb := zsum_b (f := fun k => if k ≠ -1 ∧ a (10 + k) = 1 ∧ a (4 + k) / 4 = f then (1 : Int) else 0) (m := 1) n (fun k _ _ => by split <;> omega)
    show (if a (10 + n) = 1 ∧ a (4 + n) / 4 = f then b * oA a b n f else oA a b n f) = b ^ (zsum n (fun k => if k ≠ -1 ∧ a (10 + k) = 1 ∧ a (4 + k) / 4 = f then (1 : Int) else 0) + (if (n : Int) ≠ -1 ∧ a (10 + n) = 1 ∧ a (4 + n) / 4 = f then (1 : Int) else 0)).toNat
    by_cases h : a (10 + n) = 1 ∧ a (4 + n) / 4 = f
    · rw [if_pos h, if_pos ⟨by omega, h⟩, ih, show (zsum n (fun k => if k ≠ -1 ∧ a (10 + k) = 1 ∧ a (4 + k) / 4 = f then (1 : Int) else 0) + 1).toNat = (zsum n (fun k => if k ≠ -1 ∧ a (10 + k) = 1 ∧ a (4 + k) / 4 = f then (1 : Int) else 0)).toNat + 1 by omega, Int.pow_succ, Int.mul_comm]
    · rw [if_neg h, if_neg (fun w => h w.2), ih, Int.add_zero]
theorem sOdd_prd {a : Int → Int} {lo c : Int} : ∀ m : Nat, (sOdd a lo c m).1 = zprd m (fun i => oA a 10 (a 0).toNat (lo + i) - oA a c (a 0).toNat (lo + i)) ∧ (sOdd a lo c m).2 = zprd m (fun i => oA a 10 (a 0).toNat (lo + i))
  | 0 => ⟨rfl, rfl⟩
  | m + 1 => by
    obtain ⟨h1, h2⟩ := sOdd_prd (a := a) (lo := lo) (c := c) m
    have e1 := oA_pw (a := a) (b := 10) (f := lo + m) (a 0).toNat
    have e2 := oA_pw (a := a) (b := c) (f := lo + m) (a 0).toNat
    have es : sDn a (lo + m) (-1) = zsum (a 0).toNat (fun k => if k ≠ -1 ∧ a (10 + k) = 1 ∧ a (4 + k) / 4 = lo + m then 1 else 0) := rfl
    rw [← es] at e1 e2
    constructor
    · show (sOdd a lo c m).1 * (10 ^ (sDn a (lo + m) (-1)).toNat - c ^ (sDn a (lo + m) (-1)).toNat) = zprd m _ * (oA a 10 (a 0).toNat (lo + m) - oA a c (a 0).toNat (lo + m))
      rw [h1, e1, e2]
    · show (sOdd a lo c m).2 * 10 ^ (sDn a (lo + m) (-1)).toNat = zprd m _ * oA a 10 (a 0).toNat (lo + m)
      rw [h2, e1]
/-- the model's two numbers are the class's, so many times -/
theorem odd_both {a : Int → Int} {lo c : Int} (m : Nat) : oT a c lo (lo + m) (a 0).toNat (fun _ => False) = oO a lo (lo + m) (a 0).toNat * (sOdd a lo c m).1 ∧ oD a (a 0).toNat = oO a lo (lo + m) (a 0).toNat * (sOdd a lo c m).2 := by
  refine ⟨?_, ?_⟩
  · rw [oT_cl, (sOdd_prd m).1]
    congr 1
    exact zprd_eq m fun k _ _ => cIf_f (fun w => w)
  · rw [oD_cl (lo := lo) (m := m), (sOdd_prd m).2]
theorem gg_frac {k x y : Int} (k0 : 0 < k) (x0 : 0 ≤ x) (y0 : 0 < y) : (k * x) / gg (k * x) (k * y) = x / gg y x ∧ (k * y) / gg (k * x) (k * y) = y / gg y x ∧ 0 < gg (k * x) (k * y) := by
  obtain ⟨q, rfl⟩ := Int.eq_ofNat_of_zero_le (show 0 ≤ k by omega)
  obtain ⟨u, rfl⟩ := Int.eq_ofNat_of_zero_le x0
  obtain ⟨v, rfl⟩ := Int.eq_ofNat_of_zero_le (show 0 ≤ y by omega)
  unfold gg
  rw [← Int.natCast_mul, ← Int.natCast_mul, Int.toNat_natCast, Int.toNat_natCast, Int.toNat_natCast, Int.toNat_natCast, Nat.gcd_mul_left, Nat.gcd_comm v u, ← Int.natCast_ediv, ← Int.natCast_ediv, ← Int.natCast_ediv, ← Int.natCast_ediv]
  have hq : 0 < q := by omega
  have hg : 0 < Nat.gcd u v := Nat.gcd_pos_of_pos_right u (by omega)
  refine ⟨by rw [Nat.mul_div_mul_left _ _ hq], by rw [Nat.mul_div_mul_left _ _ hq], ?_⟩
  have := Nat.mul_pos hq hg
  omega
