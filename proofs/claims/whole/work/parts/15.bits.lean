/-! ===== 15: bits of small numbers ===== -/
theorem b_bv {x : Nat} : (Int32.ofInt (x : Int)).toBitVec = BitVec.ofNat 32 x := by
  rw [Int32.toBitVec_ofInt, BitVec.ofInt_natCast]
theorem b_ti {v : BitVec 32} {n : Nat} (h : v.toNat = n) (hn : n < 2147483648) : v.toInt = (n : Int) := by
  rw [BitVec.toInt_eq_toNat_of_lt (by omega), h]
theorem bO_n {x y : Nat} (hx : x < 2147483648) (hy : y < 2147483648) : bO x y = ((x ||| y : Nat) : Int) := by
  unfold bO
  rw [← Int32.toInt_toBitVec, Int32.toBitVec_or, b_bv, b_bv]
  refine b_ti ?_ (Nat.or_lt_two_pow (n := 31) (by omega) (by omega))
  rw [BitVec.toNat_or, BitVec.toNat_ofNat, BitVec.toNat_ofNat, Nat.mod_eq_of_lt (by omega), Nat.mod_eq_of_lt (by omega)]
theorem bA_n {x y : Nat} (hx : x < 2147483648) (hy : y < 2147483648) : bA x y = ((x &&& y : Nat) : Int) := by
  unfold bA
  rw [← Int32.toInt_toBitVec, Int32.toBitVec_and, b_bv, b_bv]
  refine b_ti ?_ (Nat.lt_of_le_of_lt (Nat.and_le_left) (by omega))
  rw [BitVec.toNat_and, BitVec.toNat_ofNat, BitVec.toNat_ofNat, Nat.mod_eq_of_lt (by omega), Nat.mod_eq_of_lt (by omega)]
theorem b_sh : ∀ k : Nat, k < 32 → ((Int32.ofInt (k : Int) &&& 31).toBitVec.smod 32) = BitVec.ofNat 32 k := by decide +kernel
theorem bL_n {x k : Nat} (hk : k < 32) (h : x * 2 ^ k < 2147483648) : bL x k = ((x * 2 ^ k : Nat) : Int) := by
  have hx : x < 2147483648 := Nat.lt_of_le_of_lt (Nat.le_mul_of_pos_right x (Nat.pow_pos (by decide))) h
  unfold bL
  rw [← Int32.toInt_toBitVec, Int32.toBitVec_shiftLeft, b_bv, b_sh k hk]
  refine b_ti ?_ h
  rw [BitVec.shiftLeft_eq', BitVec.toNat_shiftLeft, BitVec.toNat_ofNat, BitVec.toNat_ofNat, Nat.mod_eq_of_lt (a := k) (by omega), Nat.mod_eq_of_lt (a := x) (by omega), Nat.shiftLeft_eq, Nat.mod_eq_of_lt (by omega)]
theorem bR_n {x : Int} {k : Nat} (hx : zR x) (hk : k < 32) : bR x k = x / 2 ^ k := by
  unfold bR
  rw [← Int32.toInt_toBitVec, Int32.toBitVec_shiftRight, b_sh k hk, BitVec.sshiftRight_eq', BitVec.toInt_sshiftRight, BitVec.toNat_ofNat, Nat.mod_eq_of_lt (by omega), Int.shiftRight_eq_div_pow, Int32.toInt_toBitVec, zR_toInt hx]
  rfl
/-- bit k of m -/
def zB (m : Int) (k : Int) : Prop := m / 2 ^ k.toNat % 2 = 1
theorem bA1 {x : Int} (hx : 0 ≤ x) (h : x < 2147483648) : bA x 1 = x % 2 := by
  obtain ⟨n, rfl⟩ := Int.eq_ofNat_of_zero_le hx
  have e := bA_n (x := n) (y := 1) (by omega) (by omega)
  rw [show ((1 : Nat) : Int) = 1 from rfl] at e
  rw [e, Nat.and_one_is_mod]
  rfl
theorem zB_iff {m k : Int} (hm : 0 ≤ m) (hm2 : m < 2147483648) (hk : 0 ≤ k) (hk2 : k < 32) : bA (bR m k) 1 = 1 ↔ zB m k := by
  obtain ⟨n, rfl⟩ := Int.eq_ofNat_of_zero_le hk
  have hR : zR m := ⟨by omega, by omega⟩
  rw [bR_n hR (by omega)]
  have h1 : 0 ≤ m / 2 ^ n := Int.ediv_nonneg hm (by have : (0 : Int) < 2 ^ n := Int.pow_pos (by decide); omega)
  have h2 : m / 2 ^ n ≤ m := Int.ediv_le_self _ hm
  rw [bA1 h1 (by omega)]
  unfold zB
  rw [Int.toNat_natCast]
theorem zB_bit {m : Int} (h0 : 0 ≤ m) (h1 : m < 2147483648) (k : Int) (hk : 0 ≤ k) (hk2 : k < 32) : bA (bR m k) 1 = 0 ∨ bA (bR m k) 1 = 1 := by
  obtain ⟨n, rfl⟩ := Int.eq_ofNat_of_zero_le hk
  have hR : zR m := ⟨by omega, by omega⟩
  rw [bR_n hR (by omega)]
  have h1 : 0 ≤ m / 2 ^ n := Int.ediv_nonneg h0 (by have : (0 : Int) < 2 ^ n := Int.pow_pos (by decide); omega)
  have h2 : m / 2 ^ n ≤ m := Int.ediv_le_self _ h0
  rw [bA1 h1 (by omega)]
  omega
theorem zB_nat (x k : Nat) : zB (x : Int) (k : Int) ↔ x.testBit k = true := by
  unfold zB
  rw [Int.toNat_natCast, Nat.testBit_eq_decide_div_mod_eq, decide_eq_true_eq]
  constructor
  · intro h
    have h' : ((x / 2 ^ k % 2 : Nat) : Int) = 1 := by simpa using h
    omega
  · intro h
    have h' : ((x / 2 ^ k % 2 : Nat) : Int) = 1 := by rw [h]; rfl
    simpa using h'
theorem zB_0 (k : Int) : ¬ zB 0 k := by
  unfold zB
  rw [Int.zero_ediv]
  decide
theorem zB_or {x : Int} {k j : Int} (hx : 0 ≤ x) (hx2 : x < 1048576) (hk : 0 ≤ k) (hk2 : k < 20) (hj : 0 ≤ j) : (zB (bO x (bL 1 k)) j ↔ zB x j ∨ j = k) ∧ 0 ≤ bO x (bL 1 k) ∧ bO x (bL 1 k) < 1048576 := by
  obtain ⟨n, rfl⟩ := Int.eq_ofNat_of_zero_le hx
  obtain ⟨q, rfl⟩ := Int.eq_ofNat_of_zero_le hk
  obtain ⟨i, rfl⟩ := Int.eq_ofNat_of_zero_le hj
  have hq : 2 ^ q < 2 ^ 20 := Nat.pow_lt_pow_right (by decide) (by omega)
  have e1 : bL 1 (q : Int) = ((2 ^ q : Nat) : Int) := by
    have := bL_n (x := 1) (k := q) (by omega) (by omega)
    rw [Nat.one_mul] at this
    exact this
  rw [e1, bO_n (by omega) (by omega)]
  have hlt : n ||| 2 ^ q < 2 ^ 20 := Nat.or_lt_two_pow (by omega) hq
  refine ⟨?_, by omega, by omega⟩
  rw [zB_nat, zB_nat, Nat.testBit_or, Bool.or_eq_true, Nat.testBit_two_pow, decide_eq_true_eq]
  constructor
  · rintro (h | h)
    · exact Or.inl h
    · exact Or.inr (by omega)
  · rintro (h | h)
    · exact Or.inl h
    · exact Or.inr (by omega)
theorem zB_or0 {x : Int} (hx : 0 ≤ x) (hx2 : x < 1048576) {k : Int} (hk : 0 ≤ k) (hk2 : k < 20) : bO x (bL 0 k) = x := by
  obtain ⟨n, rfl⟩ := Int.eq_ofNat_of_zero_le hx
  obtain ⟨q, rfl⟩ := Int.eq_ofNat_of_zero_le hk
  have e1 : bL 0 (q : Int) = ((0 : Nat) : Int) := by
    have := bL_n (x := 0) (k := q) (by omega) (by omega)
    rw [Nat.zero_mul] at this
    exact this
  rw [e1, bO_n (by omega) (by omega), Nat.or_zero]
