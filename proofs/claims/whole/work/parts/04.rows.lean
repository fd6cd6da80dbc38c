/-! ===== 04: a row an instruction ===== -/
theorem z_toR (x : Int32) : zR x.toInt := by
  have h1 := Int32.le_toInt x
  have h2 := Int32.toInt_lt x
  exact ⟨by omega, by omega⟩
theorem zR_toInt {x : Int} (h : zR x) : (Int32.ofInt x).toInt = x := Int32.toInt_ofInt_of_le (by have := h.1; omega) (by have := h.2; omega)
theorem zR6_toInt {x : Int} (h : zR6 x) : (Int64.ofInt x).toInt = x := Int64.toInt_ofInt_of_le (by have := h.1; omega) (by have := h.2; omega)
theorem zR_lt {x y : Int} (hx : zR x) (hy : zR y) : Int32.ofInt x < Int32.ofInt y ↔ x < y := by
  rw [Int32.lt_iff_toInt_lt, zR_toInt hx, zR_toInt hy]
theorem zR_le {x y : Int} (hx : zR x) (hy : zR y) : Int32.ofInt x ≤ Int32.ofInt y ↔ x ≤ y := by
  rw [Int32.le_iff_toInt_le, zR_toInt hx, zR_toInt hy]
theorem zR_eq {x y : Int} (hx : zR x) (hy : zR y) : Int32.ofInt x = Int32.ofInt y ↔ x = y := by
  rw [← Int32.toInt_inj, zR_toInt hx, zR_toInt hy]
theorem zR_0 : zR 0 := by unfold zR; omega
theorem zR_1 : zR 1 := by unfold zR; omega
def z64 (x : Int) : Int := (Int64.ofInt x).toInt
theorem z64_R (x : Int) : zR6 (z64 x) := by
  have h1 := Int64.le_toInt (Int64.ofInt x)
  have h2 := Int64.toInt_lt (Int64.ofInt x)
  exact ⟨by unfold z64; omega, by unfold z64; omega⟩
theorem z64_id {x : Int} (h : zR6 x) : z64 x = x := zR6_toInt h
theorem z64_of (x : Int) : Int64.ofInt (z64 x) = Int64.ofInt x := Int64.ofInt_toInt _
def bA (x y : Int) : Int := (Int32.ofInt x &&& Int32.ofInt y).toInt
def bO (x y : Int) : Int := (Int32.ofInt x ||| Int32.ofInt y).toInt
def bX (x y : Int) : Int := (Int32.ofInt x ^^^ Int32.ofInt y).toInt
def bL (x y : Int) : Int := (Int32.ofInt x <<< (Int32.ofInt y &&& 31)).toInt
def bR (x y : Int) : Int := (Int32.ofInt x >>> (Int32.ofInt y &&& 31)).toInt
def bU (x y : Int) : Int := (((Int32.ofInt x).toUInt32 >>> ((Int32.ofInt y).toUInt32 &&& Int32.toUInt32 31)).toInt32).toInt
theorem z_div {x y : Int} (hx : zR x) (hy : zR y) (h0 : 0 ≤ x) (h1 : 0 < y) : Int32.ofInt x / Int32.ofInt y = Int32.ofInt (x / y) ∧ zR (x / y) := by
  have hb : x / y ≤ x := Int.ediv_le_self y h0
  have hc : 0 ≤ x / y := Int.ediv_nonneg h0 (by omega)
  have hz : zR (x / y) := ⟨by omega, by have := hx.2; omega⟩
  refine ⟨?_, hz⟩
  rw [← Int32.toInt_inj, Int32.toInt_div_of_ne_right _ _ ?_, zR_toInt hx, zR_toInt hy, zR_toInt hz, Int.tdiv_eq_ediv_of_nonneg h0]
  intro e
  have := congrArg Int32.toInt e
  rw [zR_toInt hy] at this
  have e1 : (-1 : Int32).toInt = -1 := by decide
  rw [e1] at this
  omega
theorem z_mod {x y : Int} (hx : zR x) (hy : zR y) (h0 : 0 ≤ x) (h1 : 0 < y) : Int32.ofInt x - Int32.ofInt x / Int32.ofInt y * Int32.ofInt y = Int32.ofInt (x % y) ∧ zR (x % y) := by
  have hb : x % y < y := Int.emod_lt_of_pos x h1
  have hc : 0 ≤ x % y := Int.emod_nonneg x (by omega)
  have hz : zR (x % y) := ⟨by omega, by have := hy.2; omega⟩
  refine ⟨?_, hz⟩
  rw [(z_div hx hy h0 h1).1, ← Int32.ofInt_mul, ← Int32.ofInt_sub, Int.emod_def, Int.mul_comm]
theorem z_div6 {x y : Int} (hx : zR6 x) (hy : zR6 y) (h0 : 0 ≤ x) (h1 : 0 < y) : Int64.ofInt x / Int64.ofInt y = Int64.ofInt (x / y) ∧ zR6 (x / y) := by
  have hb : x / y ≤ x := Int.ediv_le_self y h0
  have hc : 0 ≤ x / y := Int.ediv_nonneg h0 (by omega)
  have hz : zR6 (x / y) := ⟨by omega, by have := hx.2; omega⟩
  refine ⟨?_, hz⟩
  rw [← Int64.toInt_inj, Int64.toInt_div_of_ne_right _ _ ?_, zR6_toInt hx, zR6_toInt hy, zR6_toInt hz, Int.tdiv_eq_ediv_of_nonneg h0]
  intro e
  have := congrArg Int64.toInt e
  rw [zR6_toInt hy] at this
  have e1 : (-1 : Int64).toInt = -1 := by decide
  rw [e1] at this
  omega
theorem z_mod6 {x y : Int} (hx : zR6 x) (hy : zR6 y) (h0 : 0 ≤ x) (h1 : 0 < y) : Int64.ofInt x - Int64.ofInt x / Int64.ofInt y * Int64.ofInt y = Int64.ofInt (x % y) ∧ zR6 (x % y) := by
  have hb : x % y < y := Int.emod_lt_of_pos x h1
  have hc : 0 ≤ x % y := Int.emod_nonneg x (by omega)
  have hz : zR6 (x % y) := ⟨by omega, by have := hy.2; omega⟩
  refine ⟨?_, hz⟩
  rw [(z_div6 hx hy h0 h1).1, ← Int64.ofInt_mul, ← Int64.ofInt_sub, Int.emod_def, Int.mul_comm]
theorem zR_ne0 {y : Int} (hy : zR y) (h : 0 < y) : ¬ Int32.ofInt y = 0 := by
  intro e
  have h2 := (zR_eq hy zR_0).mp e
  omega
theorem zR6_ne0 {y : Int} (hy : zR6 y) (h : 0 < y) : ¬ Int64.ofInt y = 0 := by
  intro e
  have := congrArg Int64.toInt e
  rw [zR6_toInt hy] at this
  have e1 : (0 : Int64).toInt = 0 := by decide
  rw [e1] at this
  omega
theorem z_i2l {x : Int} (hx : zR x) : (Int32.ofInt x).toInt64 = Int64.ofInt x ∧ zR6 x := by
  have hz : zR6 x := ⟨by have := hx.1; omega, by have := hx.2; omega⟩
  refine ⟨?_, hz⟩
  rw [← Int64.toInt_inj, Int32.toInt_toInt64, zR_toInt hx, zR6_toInt hz]
section Rows
variable {M : MI} {E : En} {pc : Nat} {K K1 K2 : WP}
-- constants
def w_ic (x : Int) (K : WP) : WP := fun ls st g D => K ls (zi x :: st) g D
def w_lc (x : Int) (K : WP) : WP := fun ls st g D => K ls (zl x :: st) g D
theorem S_iconst {x : Int} (hd : decode (mC M) pc = .ok (.iconst x, 1)) (hx : zR x) (k : z_Snd M E (pc + 1) K) : z_Snd M E pc (w_ic x K) := by
  intro ls st g D hw X p l e R s m args below meth c Z b H locs cells slots arr n0 s0 hr hc hrel hlv hol hos
  refine lv_iconst hr.1 hr.2.1 (v := Int32.ofInt x) hd rfl ?_
  exact k _ _ _ _ hw hr hc hrel hlv hol (z_oks_c hx hos)
theorem S_bipush {x : Int} (hd : decode (mC M) pc = .ok (.bipush x, 2)) (hv : (Int8.ofInt x).toInt32 = Int32.ofInt x) (hx : zR x) (k : z_Snd M E (pc + 2) K) : z_Snd M E pc (w_ic x K) := by
  intro ls st g D hw X p l e R s m args below meth c Z b H locs cells slots arr n0 s0 hr hc hrel hlv hol hos
  refine lv_bipush hr.1 hr.2.1 (v := Int32.ofInt x) hd hv ?_
  exact k _ _ _ _ hw hr hc hrel hlv hol (z_oks_c hx hos)
theorem S_sipush {x : Int} (hd : decode (mC M) pc = .ok (.sipush x, 3)) (hv : (Int16.ofInt x).toInt32 = Int32.ofInt x) (hx : zR x) (k : z_Snd M E (pc + 3) K) : z_Snd M E pc (w_ic x K) := by
  intro ls st g D hw X p l e R s m args below meth c Z b H locs cells slots arr n0 s0 hr hc hrel hlv hol hos
  refine lv_sipush hr.1 hr.2.1 (v := Int32.ofInt x) hd hv ?_
  exact k _ _ _ _ hw hr hc hrel hlv hol (z_oks_c hx hos)
theorem S_ldc {x : Int} {v : Int32} {i : Nat} (hd : decode (mC M) pc = .ok (.ldc i, 2)) (hcw : Cond.constant (mY M).cls i v ∈ z_tb) (hv : v = Int32.ofInt x) (hx : zR x) (k : z_Snd M E (pc + 2) K) : z_Snd M E pc (w_ic x K) := by
  intro ls st g D hw X p l e R s m args below meth c Z b H locs cells slots arr n0 s0 hr hc hrel hlv hol hos
  subst hv
  refine lv_ldc hr.1 hr.2.1 (v := Int32.ofInt x) hr.2.2.2.1 (hr.2.2.2.2.1 _ hcw) hd ?_
  exact k _ _ _ _ hw hr hc hrel hlv hol (z_oks_c hx hos)
theorem S_ldcw {x : Int} {v : Int32} {i : Nat} (hd : decode (mC M) pc = .ok (.ldc_w i, 3)) (hcw : Cond.constant (mY M).cls i v ∈ z_tb) (hv : v = Int32.ofInt x) (hx : zR x) (k : z_Snd M E (pc + 3) K) : z_Snd M E pc (w_ic x K) := by
  intro ls st g D hw X p l e R s m args below meth c Z b H locs cells slots arr n0 s0 hr hc hrel hlv hol hos
  subst hv
  refine lv_ldcw hr.1 hr.2.1 (v := Int32.ofInt x) hr.2.2.2.1 (hr.2.2.2.2.1 _ hcw) hd ?_
  exact k _ _ _ _ hw hr hc hrel hlv hol (z_oks_c hx hos)
theorem S_lconst {x : Int} {n : Fin 2} (hd : decode (mC M) pc = .ok (.lconst n, 1)) (hv : Int64.ofNat (n : Nat) = Int64.ofInt x) (hx : zR6 x) (k : z_Snd M E (pc + 1) K) : z_Snd M E pc (w_lc x K) := by
  intro ls st g D hw X p l e R s m args below meth c Z b H locs cells slots arr n0 s0 hr hc hrel hlv hol hos
  refine lv_lconst hr.1 hr.2.1 (v := Int64.ofInt x) hd hv ?_
  exact k _ _ _ _ hw hr hc hrel hlv hol (z_oks_c hx hos)
theorem S_ldc2 {x : Int} {v : Int64} {i : Nat} (hd : decode (mC M) pc = .ok (.ldc2_w i, 3)) (hcw : Cond.constantLong (mY M).cls i v ∈ z_tb) (hv : v = Int64.ofInt x) (hx : zR6 x) (k : z_Snd M E (pc + 3) K) : z_Snd M E pc (w_lc x K) := by
  intro ls st g D hw X p l e R s m args below meth c Z b H locs cells slots arr n0 s0 hr hc hrel hlv hol hos
  subst hv
  refine lv_ldc2 hr.1 hr.2.1 (v := Int64.ofInt x) hr.2.2.2.1 (hr.2.2.2.2.1 _ hcw) hd ?_
  exact k _ _ _ _ hw hr hc hrel hlv hol (z_oks_c hx hos)
def w_lds (i : Nat) (K : WP) : WP := fun ls st g D => K ls (zs i :: st) g D
theorem S_lds {i idx : Nat} (hd : decode (mC M) pc = .ok (.ldc idx, 2)) (hi : i < 7) (hM : (mY M).cls = RX1) (he : zsx i = idx) (k : z_Snd M E (pc + 2) K) : z_Snd M E pc (w_lds i K) := by
  intro ls st g D hw X p l e R s m args below meth c Z b H locs cells slots arr n0 s0 hr hc hrel hlv hol hos
  subst he
  have hown := hr.2.2.2.1
  rw [hM] at hown
  refine va_ldcS hr.1 hr.2.1 hown (hr.2.2.2.2.2.1.2.2.1 i hi) hd ?_
  exact k _ _ _ _ hw hr hc hrel hlv hol (z_oks_c hi hos)
-- locals
def w_ild (i : Nat) (K : WP) : WP := fun ls st g D => qI (gL ls i) fun x => K ls (zi x :: st) g D
def w_lld (i : Nat) (K : WP) : WP := fun ls st g D => qJ (gL ls i) fun x => K ls (zl x :: st) g D
def w_ald (i : Nat) (K : WP) : WP := fun ls st g D => qA (gL ls i) ∧ K ls (gL ls i :: st) g D
theorem z_lvi {X : Xe} {b i : Nat} {arr : Array Slot} {nL : Nat} {ls : List AV} {v : AV} (h : z_lv X b arr nL ls) (hg : gL ls i = v) (hn : v ≠ zm 0) (hr : z_real v = true) : arr[i]? = some (.val (z_conc X b v)) := h.2.2.2 i v (gL_s hg hn) hr
theorem zi_ne (x : Int) : zi x ≠ zm 0 := fun h => by cases h
theorem zl_ne (x : Int) : zl x ≠ zm 0 := fun h => by cases h
theorem qA_ne {v : AV} (h : qA v) : v ≠ zm 0 ∧ z_real v = true ∧ (∀ X b, ∃ a, z_conc X b v = .ref a) := by
  rcases v with x | x | x | x | x
  · exact h.elim
  · exact h.elim
  · exact ⟨fun e => (by cases e), rfl, fun X b => ⟨_, rfl⟩⟩
  · exact ⟨fun e => (by cases e), rfl, fun X b => ⟨_, rfl⟩⟩
  · have h1 : 2 ≤ x ∧ x ≠ 3 ∧ x ≠ 11 := h
    refine ⟨fun e => ?_, ?_, fun X b => ?_⟩
    · have : x = 0 := by cases e; rfl
      omega
    · show decide (2 ≤ x) = true
      simpa using h1.1
    · show ∃ a, (if x = 2 then Value.ref b else if x = 11 then z_fmt X else if 4 ≤ x then Value.ref (X.2.2.2.2.2 (x - 4)) else .null) = .ref a
      by_cases h2 : x = 2
      · exact ⟨b, by rw [if_pos h2]⟩
      · exact ⟨X.2.2.2.2.2 (x - 4), by rw [if_neg h2, if_neg h1.2.2, if_pos (by omega)]⟩
theorem S_ildn {i : Nat} {f : Fin 4} (hd : decode (mC M) pc = .ok (.iload_n f, 1)) (hf : (f : Nat) = i) (k : z_Snd M E (pc + 1) K) : z_Snd M E pc (w_ild i K) := by
  intro ls st g D hw X p l e R s m args below meth c Z b H locs cells slots arr n0 s0 hr hc hrel hlv hol hos
  obtain ⟨x, hx, hA⟩ := qI_e hw
  refine lv_iload_n hr.1 hr.2.1 hd hf (z_lvi hlv hx (zi_ne x) rfl) ?_
  exact k _ _ _ _ hA hr hc hrel hlv hol (z_oks_c (gL_ok hx (zi_ne x) hol) hos)
theorem S_lldn {i : Nat} {f : Fin 4} (hd : decode (mC M) pc = .ok (.lload_n f, 1)) (hf : (f : Nat) = i) (k : z_Snd M E (pc + 1) K) : z_Snd M E pc (w_lld i K) := by
  intro ls st g D hw X p l e R s m args below meth c Z b H locs cells slots arr n0 s0 hr hc hrel hlv hol hos
  obtain ⟨x, hx, hA⟩ := qJ_e hw
  refine lv_lload_n hr.1 hr.2.1 hd hf (z_lvi hlv hx (zl_ne x) rfl) ?_
  exact k _ _ _ _ hA hr hc hrel hlv hol (z_oks_c (gL_ok hx (zl_ne x) hol) hos)
theorem S_aldn {i : Nat} {f : Fin 4} (hd : decode (mC M) pc = .ok (.aload_n f, 1)) (hf : (f : Nat) = i) (k : z_Snd M E (pc + 1) K) : z_Snd M E pc (w_ald i K) := by
  intro ls st g D hw X p l e R s m args below meth c Z b H locs cells slots arr n0 s0 hr hc hrel hlv hol hos
  obtain ⟨hq, hA⟩ := hw
  obtain ⟨h1, h2, h3⟩ := qA_ne hq
  obtain ⟨a, ha⟩ := h3 X b
  have hs := z_lvi hlv rfl h1 h2
  rw [ha] at hs
  refine lv_aload_n hr.1 hr.2.1 hd hf hs ?_
  have := k _ _ _ _ hA hr hc hrel hlv hol (z_oks_c (gL_ok rfl h1 hol) hos)
  rw [List.map_cons, ha] at this
  exact this
theorem S_ild {i : Nat} (hd : decode (mC M) pc = .ok (.iload i, 2)) (k : z_Snd M E (pc + 2) K) : z_Snd M E pc (w_ild i K) := by
  intro ls st g D hw X p l e R s m args below meth c Z b H locs cells slots arr n0 s0 hr hc hrel hlv hol hos
  obtain ⟨x, hx, hA⟩ := qI_e hw
  refine lv_iload hr.1 hr.2.1 hd (z_lvi hlv hx (zi_ne x) rfl) ?_
  exact k _ _ _ _ hA hr hc hrel hlv hol (z_oks_c (gL_ok hx (zi_ne x) hol) hos)
theorem S_lld {i : Nat} (hd : decode (mC M) pc = .ok (.lload i, 2)) (k : z_Snd M E (pc + 2) K) : z_Snd M E pc (w_lld i K) := by
  intro ls st g D hw X p l e R s m args below meth c Z b H locs cells slots arr n0 s0 hr hc hrel hlv hol hos
  obtain ⟨x, hx, hA⟩ := qJ_e hw
  refine lv_lload hr.1 hr.2.1 hd (z_lvi hlv hx (zl_ne x) rfl) ?_
  exact k _ _ _ _ hA hr hc hrel hlv hol (z_oks_c (gL_ok hx (zl_ne x) hol) hos)
theorem S_ald {i : Nat} (hd : decode (mC M) pc = .ok (.aload i, 2)) (k : z_Snd M E (pc + 2) K) : z_Snd M E pc (w_ald i K) := by
  intro ls st g D hw X p l e R s m args below meth c Z b H locs cells slots arr n0 s0 hr hc hrel hlv hol hos
  obtain ⟨hq, hA⟩ := hw
  obtain ⟨h1, h2, h3⟩ := qA_ne hq
  obtain ⟨a, ha⟩ := h3 X b
  have hs := z_lvi hlv rfl h1 h2
  rw [ha] at hs
  refine lv_aload hr.1 hr.2.1 hd hs ?_
  have := k _ _ _ _ hA hr hc hrel hlv hol (z_oks_c (gL_ok rfl h1 hol) hos)
  rw [List.map_cons, ha] at this
  exact this
def w_ist (i : Nat) (K : WP) : WP := fun ls st g D => pI st fun x t => K (sL ls i (zi x)) t g D
def w_lst (i : Nat) (K : WP) : WP := fun ls st g D => pJ st fun x t => K (sL (sL ls (i + 1) (zm 1)) i (zl x)) t g D
def w_ast (i : Nat) (K : WP) : WP := fun ls st g D => pA st fun x t => K (sL ls i (zr x)) t g D
def w_iinc (i : Nat) (n : Int) (K : WP) : WP := fun ls st g D => qI (gL ls i) fun x => zR (x + n) ∧ K (sL ls i (zi (x + n))) st g D
theorem S_istn {i : Nat} {f : Fin 4} (hd : decode (mC M) pc = .ok (.istore_n f, 1)) (hf : (f : Nat) = i) (hi : i < mN M) (k : z_Snd M E (pc + 1) K) : z_Snd M E pc (w_ist i K) := by
  intro ls st g D hw X p l e R s m args below meth c Z b H locs cells slots arr n0 s0 hr hc hrel hlv hol hos
  obtain ⟨x, t, rfl, hA⟩ := pI_e hw
  refine lv_istore_n hr.1 hr.2.1 hd hf (z_lv_has hlv) hi rfl (fun arr2 h2 => ?_)
  exact k _ _ _ _ hA hr hc hrel (z_lv_st1 (v := zi x) hlv trivial h2) (sL_ok hol (z_oks_h hos)) (z_oks_t hos)
theorem S_lstn {i : Nat} {f : Fin 4} (hd : decode (mC M) pc = .ok (.lstore_n f, 1)) (hf : (f : Nat) = i) (hi : i + 1 < mN M) (k : z_Snd M E (pc + 1) K) : z_Snd M E pc (w_lst i K) := by
  intro ls st g D hw X p l e R s m args below meth c Z b H locs cells slots arr n0 s0 hr hc hrel hlv hol hos
  obtain ⟨x, t, rfl, hA⟩ := pJ_e hw
  refine lv_lstore_n hr.1 hr.2.1 hd hf (z_lv_has hlv) hi rfl (fun arr2 h2 => ?_)
  exact k _ _ _ _ hA hr hc hrel (z_lv_st2 hlv h2) (sL_ok (sL_ok hol trivial) (z_oks_h hos)) (z_oks_t hos)
theorem S_astn {i : Nat} {f : Fin 4} (hd : decode (mC M) pc = .ok (.astore_n f, 1)) (hf : (f : Nat) = i) (hi : i < mN M) (k : z_Snd M E (pc + 1) K) : z_Snd M E pc (w_ast i K) := by
  intro ls st g D hw X p l e R s m args below meth c Z b H locs cells slots arr n0 s0 hr hc hrel hlv hol hos
  obtain ⟨x, t, rfl, hA⟩ := pA_e hw
  refine lv_astore_n hr.1 hr.2.1 hd hf (z_lv_has hlv) hi rfl (fun arr2 h2 => ?_)
  exact k _ _ _ _ hA hr hc hrel (z_lv_st1 (v := zr x) hlv trivial h2) (sL_ok hol (z_oks_h hos)) (z_oks_t hos)
theorem S_ist {i : Nat} (hd : decode (mC M) pc = .ok (.istore i, 2)) (hi : i < mN M) (k : z_Snd M E (pc + 2) K) : z_Snd M E pc (w_ist i K) := by
  intro ls st g D hw X p l e R s m args below meth c Z b H locs cells slots arr n0 s0 hr hc hrel hlv hol hos
  obtain ⟨x, t, rfl, hA⟩ := pI_e hw
  refine lv_istore hr.1 hr.2.1 hd (z_lv_has hlv) hi rfl (fun arr2 h2 => ?_)
  exact k _ _ _ _ hA hr hc hrel (z_lv_st1 (v := zi x) hlv trivial h2) (sL_ok hol (z_oks_h hos)) (z_oks_t hos)
theorem S_lst {i : Nat} (hd : decode (mC M) pc = .ok (.lstore i, 2)) (hi : i + 1 < mN M) (k : z_Snd M E (pc + 2) K) : z_Snd M E pc (w_lst i K) := by
  intro ls st g D hw X p l e R s m args below meth c Z b H locs cells slots arr n0 s0 hr hc hrel hlv hol hos
  obtain ⟨x, t, rfl, hA⟩ := pJ_e hw
  refine lv_lstore hr.1 hr.2.1 hd (z_lv_has hlv) hi rfl (fun arr2 h2 => ?_)
  exact k _ _ _ _ hA hr hc hrel (z_lv_st2 hlv h2) (sL_ok (sL_ok hol trivial) (z_oks_h hos)) (z_oks_t hos)
theorem S_ast {i : Nat} (hd : decode (mC M) pc = .ok (.astore i, 2)) (hi : i < mN M) (k : z_Snd M E (pc + 2) K) : z_Snd M E pc (w_ast i K) := by
  intro ls st g D hw X p l e R s m args below meth c Z b H locs cells slots arr n0 s0 hr hc hrel hlv hol hos
  obtain ⟨x, t, rfl, hA⟩ := pA_e hw
  refine lv_astore hr.1 hr.2.1 hd (z_lv_has hlv) hi rfl (fun arr2 h2 => ?_)
  exact k _ _ _ _ hA hr hc hrel (z_lv_st1 (v := zr x) hlv trivial h2) (sL_ok hol (z_oks_h hos)) (z_oks_t hos)
theorem S_iinc {i : Nat} {n : Int} (hd : decode (mC M) pc = .ok (.iinc i n, 3)) (hi : i < mN M) (k : z_Snd M E (pc + 3) K) : z_Snd M E pc (w_iinc i n K) := by
  intro ls st g D hw X p l e R s m args below meth c Z b H locs cells slots arr n0 s0 hr hc hrel hlv hol hos
  obtain ⟨x, hx, h0, hA⟩ := qI_e hw
  have hlv0 := z_lv_has hlv
  have hm : (i, z_conc X b (zi x)) ∈ z_prs X b ls := z_prs_mem.mpr ⟨zi x, gL_s hx (zi_ne x), rfl, rfl⟩
  obtain ⟨q, hq⟩ := List.getElem?_of_mem hm
  refine lv_iinc (v := Int32.ofInt (x + n)) hr.1 hr.2.1 hd hlv0 hq (Int32.ofInt_add x n).symm hi rfl (fun arr2 h2 => ?_)
  exact k _ _ _ _ hA hr hc hrel (z_lv_st1 (v := zi (x + n)) hlv trivial h2) (sL_ok hol h0) hos
-- numbers
def w_iadd (K : WP) : WP := fun ls st g D => pI st fun y t => pI t fun x t2 => zR (x + y) ∧ K ls (zi (x + y) :: t2) g D
theorem S_iadd (hd : decode (mC M) pc = .ok (.iadd, 1)) (k : z_Snd M E (pc + 1) K) : z_Snd M E pc (w_iadd K) := by
  intro ls st g D hw X p l e R s m args below meth c Z b H locs cells slots arr n0 s0 hr hc hrel hlv hol hos
  obtain ⟨y, t, rfl, hA⟩ := pI_e hw
  obtain ⟨x, t2, rfl, hB⟩ := pI_e hA
  have hy := z_oks_h hos
  have hx := z_oks_h (z_oks_t hos)
  obtain ⟨h0, hC⟩ := hB
  refine lv_iadd hr.1 hr.2.1 hd ?_
  rw [← Int32.ofInt_add]
  have h9 := k _ _ _ _ hC hr hc hrel hlv hol (z_oks_c (h0) (z_oks_t (z_oks_t hos)))
  exact h9
def w_isub (K : WP) : WP := fun ls st g D => pI st fun y t => pI t fun x t2 => zR (x - y) ∧ K ls (zi (x - y) :: t2) g D
theorem S_isub (hd : decode (mC M) pc = .ok (.isub, 1)) (k : z_Snd M E (pc + 1) K) : z_Snd M E pc (w_isub K) := by
  intro ls st g D hw X p l e R s m args below meth c Z b H locs cells slots arr n0 s0 hr hc hrel hlv hol hos
  obtain ⟨y, t, rfl, hA⟩ := pI_e hw
  obtain ⟨x, t2, rfl, hB⟩ := pI_e hA
  have hy := z_oks_h hos
  have hx := z_oks_h (z_oks_t hos)
  obtain ⟨h0, hC⟩ := hB
  refine lv_isub hr.1 hr.2.1 hd ?_
  rw [← Int32.ofInt_sub]
  have h9 := k _ _ _ _ hC hr hc hrel hlv hol (z_oks_c (h0) (z_oks_t (z_oks_t hos)))
  exact h9
def w_imul (K : WP) : WP := fun ls st g D => pI st fun y t => pI t fun x t2 => zR (x * y) ∧ K ls (zi (x * y) :: t2) g D
theorem S_imul (hd : decode (mC M) pc = .ok (.imul, 1)) (k : z_Snd M E (pc + 1) K) : z_Snd M E pc (w_imul K) := by
  intro ls st g D hw X p l e R s m args below meth c Z b H locs cells slots arr n0 s0 hr hc hrel hlv hol hos
  obtain ⟨y, t, rfl, hA⟩ := pI_e hw
  obtain ⟨x, t2, rfl, hB⟩ := pI_e hA
  have hy := z_oks_h hos
  have hx := z_oks_h (z_oks_t hos)
  obtain ⟨h0, hC⟩ := hB
  refine lv_imul hr.1 hr.2.1 hd ?_
  rw [← Int32.ofInt_mul]
  have h9 := k _ _ _ _ hC hr hc hrel hlv hol (z_oks_c (h0) (z_oks_t (z_oks_t hos)))
  exact h9
def w_idiv (K : WP) : WP := fun ls st g D => pI st fun y t => pI t fun x t2 => (0 ≤ x ∧ 0 < y) ∧ K ls (zi (x / y) :: t2) g D
theorem S_idiv (hd : decode (mC M) pc = .ok (.idiv, 1)) (k : z_Snd M E (pc + 1) K) : z_Snd M E pc (w_idiv K) := by
  intro ls st g D hw X p l e R s m args below meth c Z b H locs cells slots arr n0 s0 hr hc hrel hlv hol hos
  obtain ⟨y, t, rfl, hA⟩ := pI_e hw
  obtain ⟨x, t2, rfl, hB⟩ := pI_e hA
  have hy := z_oks_h hos
  have hx := z_oks_h (z_oks_t hos)
  obtain ⟨h0, hC⟩ := hB
  have e := z_div hx hy h0.1 h0.2
  refine lv_idiv hr.1 hr.2.1 hd (zR_ne0 hy h0.2) ?_
  rw [e.1]
  have h9 := k _ _ _ _ hC hr hc hrel hlv hol (z_oks_c (e.2) (z_oks_t (z_oks_t hos)))
  exact h9
def w_irem (K : WP) : WP := fun ls st g D => pI st fun y t => pI t fun x t2 => (0 ≤ x ∧ 0 < y) ∧ K ls (zi (x % y) :: t2) g D
theorem S_irem (hd : decode (mC M) pc = .ok (.irem, 1)) (k : z_Snd M E (pc + 1) K) : z_Snd M E pc (w_irem K) := by
  intro ls st g D hw X p l e R s m args below meth c Z b H locs cells slots arr n0 s0 hr hc hrel hlv hol hos
  obtain ⟨y, t, rfl, hA⟩ := pI_e hw
  obtain ⟨x, t2, rfl, hB⟩ := pI_e hA
  have hy := z_oks_h hos
  have hx := z_oks_h (z_oks_t hos)
  obtain ⟨h0, hC⟩ := hB
  have e := z_mod hx hy h0.1 h0.2
  refine lv_irem hr.1 hr.2.1 hd (zR_ne0 hy h0.2) ?_
  rw [e.1]
  have h9 := k _ _ _ _ hC hr hc hrel hlv hol (z_oks_c (e.2) (z_oks_t (z_oks_t hos)))
  exact h9
def w_iand (K : WP) : WP := fun ls st g D => pI st fun y t => pI t fun x t2 => K ls (zi (bA x y) :: t2) g D
theorem S_iand (hd : decode (mC M) pc = .ok (.iand, 1)) (k : z_Snd M E (pc + 1) K) : z_Snd M E pc (w_iand K) := by
  intro ls st g D hw X p l e R s m args below meth c Z b H locs cells slots arr n0 s0 hr hc hrel hlv hol hos
  obtain ⟨y, t, rfl, hA⟩ := pI_e hw
  obtain ⟨x, t2, rfl, hB⟩ := pI_e hA
  have hy := z_oks_h hos
  have hx := z_oks_h (z_oks_t hos)
  refine lv_iand hr.1 hr.2.1 hd ?_
  rw [← Int32.ofInt_toInt (Int32.ofInt x &&& Int32.ofInt y)]
  have h9 := k _ _ _ _ hB hr hc hrel hlv hol (z_oks_c (z_toR _) (z_oks_t (z_oks_t hos)))
  exact h9
def w_ior (K : WP) : WP := fun ls st g D => pI st fun y t => pI t fun x t2 => K ls (zi (bO x y) :: t2) g D
theorem S_ior (hd : decode (mC M) pc = .ok (.ior, 1)) (k : z_Snd M E (pc + 1) K) : z_Snd M E pc (w_ior K) := by
  intro ls st g D hw X p l e R s m args below meth c Z b H locs cells slots arr n0 s0 hr hc hrel hlv hol hos
  obtain ⟨y, t, rfl, hA⟩ := pI_e hw
  obtain ⟨x, t2, rfl, hB⟩ := pI_e hA
  have hy := z_oks_h hos
  have hx := z_oks_h (z_oks_t hos)
  refine lv_ior hr.1 hr.2.1 hd ?_
  rw [← Int32.ofInt_toInt (Int32.ofInt x ||| Int32.ofInt y)]
  have h9 := k _ _ _ _ hB hr hc hrel hlv hol (z_oks_c (z_toR _) (z_oks_t (z_oks_t hos)))
  exact h9
def w_ixor (K : WP) : WP := fun ls st g D => pI st fun y t => pI t fun x t2 => K ls (zi (bX x y) :: t2) g D
theorem S_ixor (hd : decode (mC M) pc = .ok (.ixor, 1)) (k : z_Snd M E (pc + 1) K) : z_Snd M E pc (w_ixor K) := by
  intro ls st g D hw X p l e R s m args below meth c Z b H locs cells slots arr n0 s0 hr hc hrel hlv hol hos
  obtain ⟨y, t, rfl, hA⟩ := pI_e hw
  obtain ⟨x, t2, rfl, hB⟩ := pI_e hA
  have hy := z_oks_h hos
  have hx := z_oks_h (z_oks_t hos)
  refine lv_ixor hr.1 hr.2.1 hd ?_
  rw [← Int32.ofInt_toInt (Int32.ofInt x ^^^ Int32.ofInt y)]
  have h9 := k _ _ _ _ hB hr hc hrel hlv hol (z_oks_c (z_toR _) (z_oks_t (z_oks_t hos)))
  exact h9
def w_ishl (K : WP) : WP := fun ls st g D => pI st fun y t => pI t fun x t2 => K ls (zi (bL x y) :: t2) g D
theorem S_ishl (hd : decode (mC M) pc = .ok (.ishl, 1)) (k : z_Snd M E (pc + 1) K) : z_Snd M E pc (w_ishl K) := by
  intro ls st g D hw X p l e R s m args below meth c Z b H locs cells slots arr n0 s0 hr hc hrel hlv hol hos
  obtain ⟨y, t, rfl, hA⟩ := pI_e hw
  obtain ⟨x, t2, rfl, hB⟩ := pI_e hA
  have hy := z_oks_h hos
  have hx := z_oks_h (z_oks_t hos)
  refine lv_ishl hr.1 hr.2.1 hd ?_
  rw [← Int32.ofInt_toInt (Int32.ofInt x <<< (Int32.ofInt y &&& 31))]
  have h9 := k _ _ _ _ hB hr hc hrel hlv hol (z_oks_c (z_toR _) (z_oks_t (z_oks_t hos)))
  exact h9
def w_ishr (K : WP) : WP := fun ls st g D => pI st fun y t => pI t fun x t2 => K ls (zi (bR x y) :: t2) g D
theorem S_ishr (hd : decode (mC M) pc = .ok (.ishr, 1)) (k : z_Snd M E (pc + 1) K) : z_Snd M E pc (w_ishr K) := by
  intro ls st g D hw X p l e R s m args below meth c Z b H locs cells slots arr n0 s0 hr hc hrel hlv hol hos
  obtain ⟨y, t, rfl, hA⟩ := pI_e hw
  obtain ⟨x, t2, rfl, hB⟩ := pI_e hA
  have hy := z_oks_h hos
  have hx := z_oks_h (z_oks_t hos)
  refine lv_ishr hr.1 hr.2.1 hd ?_
  rw [← Int32.ofInt_toInt (Int32.ofInt x >>> (Int32.ofInt y &&& 31))]
  have h9 := k _ _ _ _ hB hr hc hrel hlv hol (z_oks_c (z_toR _) (z_oks_t (z_oks_t hos)))
  exact h9
def w_iushr (K : WP) : WP := fun ls st g D => pI st fun y t => pI t fun x t2 => K ls (zi (bU x y) :: t2) g D
theorem S_iushr (hd : decode (mC M) pc = .ok (.iushr, 1)) (k : z_Snd M E (pc + 1) K) : z_Snd M E pc (w_iushr K) := by
  intro ls st g D hw X p l e R s m args below meth c Z b H locs cells slots arr n0 s0 hr hc hrel hlv hol hos
  obtain ⟨y, t, rfl, hA⟩ := pI_e hw
  obtain ⟨x, t2, rfl, hB⟩ := pI_e hA
  have hy := z_oks_h hos
  have hx := z_oks_h (z_oks_t hos)
  refine lv_iushr hr.1 hr.2.1 (v := Int32.ofInt (bU x y)) hd (by unfold bU; rw [Int32.ofInt_toInt]) ?_
  have h9 := k _ _ _ _ hB hr hc hrel hlv hol (z_oks_c (z_toR _) (z_oks_t (z_oks_t hos)))
  exact h9
def w_ineg (K : WP) : WP := fun ls st g D => pI st fun x t => zR (-x) ∧ K ls (zi (-x) :: t) g D
theorem S_ineg (hd : decode (mC M) pc = .ok (.ineg, 1)) (k : z_Snd M E (pc + 1) K) : z_Snd M E pc (w_ineg K) := by
  intro ls st g D hw X p l e R s m args below meth c Z b H locs cells slots arr n0 s0 hr hc hrel hlv hol hos
  obtain ⟨x, t, rfl, h0, hA⟩ := pI_e hw
  refine lv_ineg hr.1 hr.2.1 hd ?_
  have h9 := k _ _ _ _ hA hr hc hrel hlv hol (z_oks_c h0 (z_oks_t hos))
  rw [List.map_cons] at h9
  first
    | (rw [← Int32.ofInt_neg]; exact h9)
    | (rw [show (0 : Int32) - Int32.ofInt x = Int32.ofInt (-x) by rw [Int32.ofInt_neg]; simp]; exact h9)
def w_ladd (K : WP) : WP := fun ls st g D => pJ st fun y t => pJ t fun x t2 => K ls (zl (z64 (x + y)) :: t2) g D
theorem S_ladd (hd : decode (mC M) pc = .ok (.ladd, 1)) (k : z_Snd M E (pc + 1) K) : z_Snd M E pc (w_ladd K) := by
  intro ls st g D hw X p l e R s m args below meth c Z b H locs cells slots arr n0 s0 hr hc hrel hlv hol hos
  obtain ⟨y, t, rfl, hA⟩ := pJ_e hw
  obtain ⟨x, t2, rfl, hB⟩ := pJ_e hA
  have hy := z_oks_h hos
  have hx := z_oks_h (z_oks_t hos)
  refine lv_ladd hr.1 hr.2.1 hd ?_
  rw [← Int64.ofInt_add, ← z64_of]
  have h9 := k _ _ _ _ hB hr hc hrel hlv hol (z_oks_c (z64_R _) (z_oks_t (z_oks_t hos)))
  exact h9
def w_lsub (K : WP) : WP := fun ls st g D => pJ st fun y t => pJ t fun x t2 => K ls (zl (z64 (x - y)) :: t2) g D
theorem S_lsub (hd : decode (mC M) pc = .ok (.lsub, 1)) (k : z_Snd M E (pc + 1) K) : z_Snd M E pc (w_lsub K) := by
  intro ls st g D hw X p l e R s m args below meth c Z b H locs cells slots arr n0 s0 hr hc hrel hlv hol hos
  obtain ⟨y, t, rfl, hA⟩ := pJ_e hw
  obtain ⟨x, t2, rfl, hB⟩ := pJ_e hA
  have hy := z_oks_h hos
  have hx := z_oks_h (z_oks_t hos)
  refine lv_lsub hr.1 hr.2.1 hd ?_
  rw [← Int64.ofInt_sub, ← z64_of]
  have h9 := k _ _ _ _ hB hr hc hrel hlv hol (z_oks_c (z64_R _) (z_oks_t (z_oks_t hos)))
  exact h9
def w_lmul (K : WP) : WP := fun ls st g D => pJ st fun y t => pJ t fun x t2 => K ls (zl (z64 (x * y)) :: t2) g D
theorem S_lmul (hd : decode (mC M) pc = .ok (.lmul, 1)) (k : z_Snd M E (pc + 1) K) : z_Snd M E pc (w_lmul K) := by
  intro ls st g D hw X p l e R s m args below meth c Z b H locs cells slots arr n0 s0 hr hc hrel hlv hol hos
  obtain ⟨y, t, rfl, hA⟩ := pJ_e hw
  obtain ⟨x, t2, rfl, hB⟩ := pJ_e hA
  have hy := z_oks_h hos
  have hx := z_oks_h (z_oks_t hos)
  refine lv_lmul hr.1 hr.2.1 hd ?_
  rw [← Int64.ofInt_mul, ← z64_of]
  have h9 := k _ _ _ _ hB hr hc hrel hlv hol (z_oks_c (z64_R _) (z_oks_t (z_oks_t hos)))
  exact h9
def w_ldiv (K : WP) : WP := fun ls st g D => pJ st fun y t => pJ t fun x t2 => (0 ≤ x ∧ 0 < y) ∧ K ls (zl (x / y) :: t2) g D
theorem S_ldiv (hd : decode (mC M) pc = .ok (.ldiv, 1)) (k : z_Snd M E (pc + 1) K) : z_Snd M E pc (w_ldiv K) := by
  intro ls st g D hw X p l e R s m args below meth c Z b H locs cells slots arr n0 s0 hr hc hrel hlv hol hos
  obtain ⟨y, t, rfl, hA⟩ := pJ_e hw
  obtain ⟨x, t2, rfl, hB⟩ := pJ_e hA
  have hy := z_oks_h hos
  have hx := z_oks_h (z_oks_t hos)
  obtain ⟨h0, hC⟩ := hB
  have e := z_div6 hx hy h0.1 h0.2
  refine lv_ldiv hr.1 hr.2.1 hd (zR6_ne0 hy h0.2) ?_
  rw [e.1]
  have h9 := k _ _ _ _ hC hr hc hrel hlv hol (z_oks_c (e.2) (z_oks_t (z_oks_t hos)))
  exact h9
def w_lrem (K : WP) : WP := fun ls st g D => pJ st fun y t => pJ t fun x t2 => (0 ≤ x ∧ 0 < y) ∧ K ls (zl (x % y) :: t2) g D
theorem S_lrem (hd : decode (mC M) pc = .ok (.lrem, 1)) (k : z_Snd M E (pc + 1) K) : z_Snd M E pc (w_lrem K) := by
  intro ls st g D hw X p l e R s m args below meth c Z b H locs cells slots arr n0 s0 hr hc hrel hlv hol hos
  obtain ⟨y, t, rfl, hA⟩ := pJ_e hw
  obtain ⟨x, t2, rfl, hB⟩ := pJ_e hA
  have hy := z_oks_h hos
  have hx := z_oks_h (z_oks_t hos)
  obtain ⟨h0, hC⟩ := hB
  have e := z_mod6 hx hy h0.1 h0.2
  refine lv_lrem hr.1 hr.2.1 hd (zR6_ne0 hy h0.2) ?_
  rw [e.1]
  have h9 := k _ _ _ _ hC hr hc hrel hlv hol (z_oks_c (e.2) (z_oks_t (z_oks_t hos)))
  exact h9
def zcmp (x y : Int) : Int := if y < x then 1 else if x = y then 0 else -1
theorem zcmp_lg {x y : Int} (hx : zR6 x) (hy : zR6 y) : lg_cmp (Int64.ofInt x) (Int64.ofInt y) = Int32.ofInt (zcmp x y) := by
  have e1 : (Int64.ofInt x > Int64.ofInt y) ↔ y < x := by
    show Int64.ofInt y < Int64.ofInt x ↔ _
    rw [Int64.lt_iff_toInt_lt, zR6_toInt hx, zR6_toInt hy]
  have e2 : (Int64.ofInt x = Int64.ofInt y) ↔ x = y := by
    rw [← Int64.toInt_inj, zR6_toInt hx, zR6_toInt hy]
  unfold lg_cmp zcmp
  by_cases h1 : y < x
  · rw [if_pos (e1.mpr h1), if_pos h1]; rfl
  · rw [if_neg (fun q => h1 (e1.mp q)), if_neg h1]
    by_cases h2 : x = y
    · rw [if_pos (e2.mpr h2), if_pos h2]; rfl
    · rw [if_neg (fun q => h2 (e2.mp q)), if_neg h2]; rfl
theorem zcmp_R (x y : Int) : zR (zcmp x y) := by
  unfold zcmp zR
  split
  · omega
  · split <;> omega
def w_lcmp (K : WP) : WP := fun ls st g D => pJ st fun y t => pJ t fun x t2 => K ls (zi (zcmp x y) :: t2) g D
def w_i2l (K : WP) : WP := fun ls st g D => pI st fun x t => K ls (zl x :: t) g D
def w_l2i (K : WP) : WP := fun ls st g D => pJ st fun x t => zR x ∧ K ls (zi x :: t) g D
theorem S_lcmp (hd : decode (mC M) pc = .ok (.lcmp, 1)) (k : z_Snd M E (pc + 1) K) : z_Snd M E pc (w_lcmp K) := by
  intro ls st g D hw X p l e R s m args below meth c Z b H locs cells slots arr n0 s0 hr hc hrel hlv hol hos
  obtain ⟨y, t, rfl, hA⟩ := pJ_e hw
  obtain ⟨x, t2, rfl, hB⟩ := pJ_e hA
  refine W.lcmp hr.1 hr.2.1 hd ?_
  rw [zcmp_lg (z_oks_h (z_oks_t hos)) (z_oks_h hos)]
  exact k _ _ _ _ hB hr hc hrel hlv hol (z_oks_c (zcmp_R _ _) (z_oks_t (z_oks_t hos)))
theorem S_i2l (hd : decode (mC M) pc = .ok (.i2l, 1)) (k : z_Snd M E (pc + 1) K) : z_Snd M E pc (w_i2l K) := by
  intro ls st g D hw X p l e R s m args below meth c Z b H locs cells slots arr n0 s0 hr hc hrel hlv hol hos
  obtain ⟨x, t, rfl, hA⟩ := pI_e hw
  have e := z_i2l (z_oks_h hos)
  refine lv_i2l hr.1 hr.2.1 hd e.1 ?_
  exact k _ _ _ _ hA hr hc hrel hlv hol (z_oks_c e.2 (z_oks_t hos))
theorem S_l2i (hd : decode (mC M) pc = .ok (.l2i, 1)) (k : z_Snd M E (pc + 1) K) : z_Snd M E pc (w_l2i K) := by
  intro ls st g D hw X p l e R s m args below meth c Z b H locs cells slots arr n0 s0 hr hc hrel hlv hol hos
  obtain ⟨x, t, rfl, h0, hA⟩ := pJ_e hw
  refine lv_l2i hr.1 hr.2.1 (v := Int32.ofInt x) hd Int64.toInt32_ofInt ?_
  exact k _ _ _ _ hA hr hc hrel hlv hol (z_oks_c h0 (z_oks_t hos))
-- the stack
def w_dup (K : WP) : WP := fun ls st g D => pV st fun v t => z_c1 v ∧ K ls (v :: v :: t) g D
def w_pop (K : WP) : WP := fun ls st g D => pV st fun v t => z_c1 v ∧ K ls t g D
def w_dup2 (K : WP) : WP := fun ls st g D => pV st fun v t => pV t fun u t2 => z_c1 v ∧ z_c1 u ∧ K ls (v :: u :: v :: u :: t2) g D
theorem S_dup (hd : decode (mC M) pc = .ok (.dup, 1)) (k : z_Snd M E (pc + 1) K) : z_Snd M E pc (w_dup K) := by
  intro ls st g D hw X p l e R s m args below meth c Z b H locs cells slots arr n0 s0 hr hc hrel hlv hol hos
  obtain ⟨v, t, rfl, h0, hA⟩ := pV_e hw
  refine lv_dup hr.1 hr.2.1 hd (c1_e h0) ?_
  exact k _ _ _ _ hA hr hc hrel hlv hol (z_oks_c (z_oks_h hos) hos)
theorem S_pop (hd : decode (mC M) pc = .ok (.pop, 1)) (k : z_Snd M E (pc + 1) K) : z_Snd M E pc (w_pop K) := by
  intro ls st g D hw X p l e R s m args below meth c Z b H locs cells slots arr n0 s0 hr hc hrel hlv hol hos
  obtain ⟨v, t, rfl, h0, hA⟩ := pV_e hw
  refine lv_pop hr.1 hr.2.1 hd (c1_e h0) ?_
  exact k _ _ _ _ hA hr hc hrel hlv hol (z_oks_t hos)
theorem S_dup2 (hd : decode (mC M) pc = .ok (.dup2, 1)) (k : z_Snd M E (pc + 1) K) : z_Snd M E pc (w_dup2 K) := by
  intro ls st g D hw X p l e R s m args below meth c Z b H locs cells slots arr n0 s0 hr hc hrel hlv hol hos
  obtain ⟨v, t, rfl, hA⟩ := pV_e hw
  obtain ⟨u, t2, rfl, h0, h1, hB⟩ := pV_e hA
  refine lv_dup2_11 hr.1 hr.2.1 hd (c1_e h0) (c1_e h1) ?_
  exact k _ _ _ _ hB hr hc hrel hlv hol (z_oks_c (z_oks_h hos) (z_oks_c (z_oks_h (z_oks_t hos)) hos))
-- branches
def w_ieq (K1 K2 : WP) : WP := fun ls st g D => pI st fun y t => pI t fun x t2 => (x = y → K1 ls t2 g D) ∧ (¬ (x = y) → K2 ls t2 g D)
def w_zeq (K1 K2 : WP) : WP := fun ls st g D => pI st fun x t => (x = 0 → K1 ls t g D) ∧ (¬ (x = 0) → K2 ls t g D)
theorem S_ieq {off : Int} {tgt : Nat} (hd : decode (mC M) pc = .ok (.if_icmp .eq off, 3)) (ht : (pc : Int) + off = (tgt : Int)) (k1 : z_Snd M E tgt K1) (k2 : z_Snd M E (pc + 3) K2) : z_Snd M E pc (w_ieq K1 K2) := by
  intro ls st g D hw X p l e R s m args below meth c Z b H locs cells slots arr n0 s0 hr hc hrel hlv hol hos
  obtain ⟨y, t, rfl, hA⟩ := pI_e hw
  obtain ⟨x, t2, rfl, h1, h2⟩ := pI_e hA
  have hy := z_oks_h hos
  have hx := z_oks_h (z_oks_t hos)
  refine lv_icmp_eq hr.1 hr.2.1 hd ht (fun q => ?_) (fun q => ?_)
  · exact k1 _ _ _ _ (h1 ((zR_eq hx hy).mp q)) hr hc hrel hlv hol (z_oks_t (z_oks_t hos))
  · exact k2 _ _ _ _ (h2 (fun w => q ((zR_eq hx hy).mpr w))) hr hc hrel hlv hol (z_oks_t (z_oks_t hos))
theorem S_zeq {off : Int} {tgt : Nat} (hd : decode (mC M) pc = .ok (.ifCond .eq off, 3)) (ht : (pc : Int) + off = (tgt : Int)) (k1 : z_Snd M E tgt K1) (k2 : z_Snd M E (pc + 3) K2) : z_Snd M E pc (w_zeq K1 K2) := by
  intro ls st g D hw X p l e R s m args below meth c Z b H locs cells slots arr n0 s0 hr hc hrel hlv hol hos
  obtain ⟨x, t2, rfl, h1, h2⟩ := pI_e hw
  have hx := z_oks_h hos
  refine lv_if_eq hr.1 hr.2.1 hd ht (fun q => ?_) (fun q => ?_)
  · exact k1 _ _ _ _ (h1 ((zR_eq hx zR_0).mp q)) hr hc hrel hlv hol (z_oks_t hos)
  · exact k2 _ _ _ _ (h2 (fun w => q ((zR_eq hx zR_0).mpr w))) hr hc hrel hlv hol (z_oks_t hos)
def w_ine (K1 K2 : WP) : WP := fun ls st g D => pI st fun y t => pI t fun x t2 => (¬ x = y → K1 ls t2 g D) ∧ (¬ (¬ x = y) → K2 ls t2 g D)
def w_zne (K1 K2 : WP) : WP := fun ls st g D => pI st fun x t => (¬ x = 0 → K1 ls t g D) ∧ (¬ (¬ x = 0) → K2 ls t g D)
theorem S_ine {off : Int} {tgt : Nat} (hd : decode (mC M) pc = .ok (.if_icmp .ne off, 3)) (ht : (pc : Int) + off = (tgt : Int)) (k1 : z_Snd M E tgt K1) (k2 : z_Snd M E (pc + 3) K2) : z_Snd M E pc (w_ine K1 K2) := by
  intro ls st g D hw X p l e R s m args below meth c Z b H locs cells slots arr n0 s0 hr hc hrel hlv hol hos
  obtain ⟨y, t, rfl, hA⟩ := pI_e hw
  obtain ⟨x, t2, rfl, h1, h2⟩ := pI_e hA
  have hy := z_oks_h hos
  have hx := z_oks_h (z_oks_t hos)
  refine lv_icmp_ne hr.1 hr.2.1 hd ht (fun q => ?_) (fun q => ?_)
  · exact k1 _ _ _ _ (h1 (fun w => q ((zR_eq hx hy).mpr w))) hr hc hrel hlv hol (z_oks_t (z_oks_t hos))
  · exact k2 _ _ _ _ (h2 (fun w => w ((zR_eq hx hy).mp q))) hr hc hrel hlv hol (z_oks_t (z_oks_t hos))
theorem S_zne {off : Int} {tgt : Nat} (hd : decode (mC M) pc = .ok (.ifCond .ne off, 3)) (ht : (pc : Int) + off = (tgt : Int)) (k1 : z_Snd M E tgt K1) (k2 : z_Snd M E (pc + 3) K2) : z_Snd M E pc (w_zne K1 K2) := by
  intro ls st g D hw X p l e R s m args below meth c Z b H locs cells slots arr n0 s0 hr hc hrel hlv hol hos
  obtain ⟨x, t2, rfl, h1, h2⟩ := pI_e hw
  have hx := z_oks_h hos
  refine lv_if_ne hr.1 hr.2.1 hd ht (fun q => ?_) (fun q => ?_)
  · exact k1 _ _ _ _ (h1 (fun w => q ((zR_eq hx zR_0).mpr w))) hr hc hrel hlv hol (z_oks_t hos)
  · exact k2 _ _ _ _ (h2 (fun w => w ((zR_eq hx zR_0).mp q))) hr hc hrel hlv hol (z_oks_t hos)
def w_ilt (K1 K2 : WP) : WP := fun ls st g D => pI st fun y t => pI t fun x t2 => (x < y → K1 ls t2 g D) ∧ (¬ (x < y) → K2 ls t2 g D)
def w_zlt (K1 K2 : WP) : WP := fun ls st g D => pI st fun x t => (x < 0 → K1 ls t g D) ∧ (¬ (x < 0) → K2 ls t g D)
theorem S_ilt {off : Int} {tgt : Nat} (hd : decode (mC M) pc = .ok (.if_icmp .lt off, 3)) (ht : (pc : Int) + off = (tgt : Int)) (k1 : z_Snd M E tgt K1) (k2 : z_Snd M E (pc + 3) K2) : z_Snd M E pc (w_ilt K1 K2) := by
  intro ls st g D hw X p l e R s m args below meth c Z b H locs cells slots arr n0 s0 hr hc hrel hlv hol hos
  obtain ⟨y, t, rfl, hA⟩ := pI_e hw
  obtain ⟨x, t2, rfl, h1, h2⟩ := pI_e hA
  have hy := z_oks_h hos
  have hx := z_oks_h (z_oks_t hos)
  refine lv_icmp_lt hr.1 hr.2.1 hd ht (fun q => ?_) (fun q => ?_)
  · exact k1 _ _ _ _ (h1 ((zR_lt hx hy).mp q)) hr hc hrel hlv hol (z_oks_t (z_oks_t hos))
  · exact k2 _ _ _ _ (h2 (fun w => q ((zR_lt hx hy).mpr w))) hr hc hrel hlv hol (z_oks_t (z_oks_t hos))
theorem S_zlt {off : Int} {tgt : Nat} (hd : decode (mC M) pc = .ok (.ifCond .lt off, 3)) (ht : (pc : Int) + off = (tgt : Int)) (k1 : z_Snd M E tgt K1) (k2 : z_Snd M E (pc + 3) K2) : z_Snd M E pc (w_zlt K1 K2) := by
  intro ls st g D hw X p l e R s m args below meth c Z b H locs cells slots arr n0 s0 hr hc hrel hlv hol hos
  obtain ⟨x, t2, rfl, h1, h2⟩ := pI_e hw
  have hx := z_oks_h hos
  refine lv_if_lt hr.1 hr.2.1 hd ht (fun q => ?_) (fun q => ?_)
  · exact k1 _ _ _ _ (h1 ((zR_lt hx zR_0).mp q)) hr hc hrel hlv hol (z_oks_t hos)
  · exact k2 _ _ _ _ (h2 (fun w => q ((zR_lt hx zR_0).mpr w))) hr hc hrel hlv hol (z_oks_t hos)
def w_ige (K1 K2 : WP) : WP := fun ls st g D => pI st fun y t => pI t fun x t2 => (y ≤ x → K1 ls t2 g D) ∧ (¬ (y ≤ x) → K2 ls t2 g D)
def w_zge (K1 K2 : WP) : WP := fun ls st g D => pI st fun x t => (0 ≤ x → K1 ls t g D) ∧ (¬ (0 ≤ x) → K2 ls t g D)
theorem S_ige {off : Int} {tgt : Nat} (hd : decode (mC M) pc = .ok (.if_icmp .ge off, 3)) (ht : (pc : Int) + off = (tgt : Int)) (k1 : z_Snd M E tgt K1) (k2 : z_Snd M E (pc + 3) K2) : z_Snd M E pc (w_ige K1 K2) := by
  intro ls st g D hw X p l e R s m args below meth c Z b H locs cells slots arr n0 s0 hr hc hrel hlv hol hos
  obtain ⟨y, t, rfl, hA⟩ := pI_e hw
  obtain ⟨x, t2, rfl, h1, h2⟩ := pI_e hA
  have hy := z_oks_h hos
  have hx := z_oks_h (z_oks_t hos)
  refine lv_icmp_ge hr.1 hr.2.1 hd ht (fun q => ?_) (fun q => ?_)
  · exact k1 _ _ _ _ (h1 ((zR_le hy hx).mp q)) hr hc hrel hlv hol (z_oks_t (z_oks_t hos))
  · exact k2 _ _ _ _ (h2 (fun w => q ((zR_le hy hx).mpr w))) hr hc hrel hlv hol (z_oks_t (z_oks_t hos))
theorem S_zge {off : Int} {tgt : Nat} (hd : decode (mC M) pc = .ok (.ifCond .ge off, 3)) (ht : (pc : Int) + off = (tgt : Int)) (k1 : z_Snd M E tgt K1) (k2 : z_Snd M E (pc + 3) K2) : z_Snd M E pc (w_zge K1 K2) := by
  intro ls st g D hw X p l e R s m args below meth c Z b H locs cells slots arr n0 s0 hr hc hrel hlv hol hos
  obtain ⟨x, t2, rfl, h1, h2⟩ := pI_e hw
  have hx := z_oks_h hos
  refine lv_if_ge hr.1 hr.2.1 hd ht (fun q => ?_) (fun q => ?_)
  · exact k1 _ _ _ _ (h1 ((zR_le zR_0 hx).mp q)) hr hc hrel hlv hol (z_oks_t hos)
  · exact k2 _ _ _ _ (h2 (fun w => q ((zR_le zR_0 hx).mpr w))) hr hc hrel hlv hol (z_oks_t hos)
def w_igt (K1 K2 : WP) : WP := fun ls st g D => pI st fun y t => pI t fun x t2 => (y < x → K1 ls t2 g D) ∧ (¬ (y < x) → K2 ls t2 g D)
def w_zgt (K1 K2 : WP) : WP := fun ls st g D => pI st fun x t => (0 < x → K1 ls t g D) ∧ (¬ (0 < x) → K2 ls t g D)
theorem S_igt {off : Int} {tgt : Nat} (hd : decode (mC M) pc = .ok (.if_icmp .gt off, 3)) (ht : (pc : Int) + off = (tgt : Int)) (k1 : z_Snd M E tgt K1) (k2 : z_Snd M E (pc + 3) K2) : z_Snd M E pc (w_igt K1 K2) := by
  intro ls st g D hw X p l e R s m args below meth c Z b H locs cells slots arr n0 s0 hr hc hrel hlv hol hos
  obtain ⟨y, t, rfl, hA⟩ := pI_e hw
  obtain ⟨x, t2, rfl, h1, h2⟩ := pI_e hA
  have hy := z_oks_h hos
  have hx := z_oks_h (z_oks_t hos)
  refine lv_icmp_gt hr.1 hr.2.1 hd ht (fun q => ?_) (fun q => ?_)
  · exact k1 _ _ _ _ (h1 ((zR_lt hy hx).mp q)) hr hc hrel hlv hol (z_oks_t (z_oks_t hos))
  · exact k2 _ _ _ _ (h2 (fun w => q ((zR_lt hy hx).mpr w))) hr hc hrel hlv hol (z_oks_t (z_oks_t hos))
theorem S_zgt {off : Int} {tgt : Nat} (hd : decode (mC M) pc = .ok (.ifCond .gt off, 3)) (ht : (pc : Int) + off = (tgt : Int)) (k1 : z_Snd M E tgt K1) (k2 : z_Snd M E (pc + 3) K2) : z_Snd M E pc (w_zgt K1 K2) := by
  intro ls st g D hw X p l e R s m args below meth c Z b H locs cells slots arr n0 s0 hr hc hrel hlv hol hos
  obtain ⟨x, t2, rfl, h1, h2⟩ := pI_e hw
  have hx := z_oks_h hos
  refine lv_if_gt hr.1 hr.2.1 hd ht (fun q => ?_) (fun q => ?_)
  · exact k1 _ _ _ _ (h1 ((zR_lt zR_0 hx).mp q)) hr hc hrel hlv hol (z_oks_t hos)
  · exact k2 _ _ _ _ (h2 (fun w => q ((zR_lt zR_0 hx).mpr w))) hr hc hrel hlv hol (z_oks_t hos)
def w_ile (K1 K2 : WP) : WP := fun ls st g D => pI st fun y t => pI t fun x t2 => (x ≤ y → K1 ls t2 g D) ∧ (¬ (x ≤ y) → K2 ls t2 g D)
def w_zle (K1 K2 : WP) : WP := fun ls st g D => pI st fun x t => (x ≤ 0 → K1 ls t g D) ∧ (¬ (x ≤ 0) → K2 ls t g D)
theorem S_ile {off : Int} {tgt : Nat} (hd : decode (mC M) pc = .ok (.if_icmp .le off, 3)) (ht : (pc : Int) + off = (tgt : Int)) (k1 : z_Snd M E tgt K1) (k2 : z_Snd M E (pc + 3) K2) : z_Snd M E pc (w_ile K1 K2) := by
  intro ls st g D hw X p l e R s m args below meth c Z b H locs cells slots arr n0 s0 hr hc hrel hlv hol hos
  obtain ⟨y, t, rfl, hA⟩ := pI_e hw
  obtain ⟨x, t2, rfl, h1, h2⟩ := pI_e hA
  have hy := z_oks_h hos
  have hx := z_oks_h (z_oks_t hos)
  refine lv_icmp_le hr.1 hr.2.1 hd ht (fun q => ?_) (fun q => ?_)
  · exact k1 _ _ _ _ (h1 ((zR_le hx hy).mp q)) hr hc hrel hlv hol (z_oks_t (z_oks_t hos))
  · exact k2 _ _ _ _ (h2 (fun w => q ((zR_le hx hy).mpr w))) hr hc hrel hlv hol (z_oks_t (z_oks_t hos))
theorem S_zle {off : Int} {tgt : Nat} (hd : decode (mC M) pc = .ok (.ifCond .le off, 3)) (ht : (pc : Int) + off = (tgt : Int)) (k1 : z_Snd M E tgt K1) (k2 : z_Snd M E (pc + 3) K2) : z_Snd M E pc (w_zle K1 K2) := by
  intro ls st g D hw X p l e R s m args below meth c Z b H locs cells slots arr n0 s0 hr hc hrel hlv hol hos
  obtain ⟨x, t2, rfl, h1, h2⟩ := pI_e hw
  have hx := z_oks_h hos
  refine lv_if_le hr.1 hr.2.1 hd ht (fun q => ?_) (fun q => ?_)
  · exact k1 _ _ _ _ (h1 ((zR_le hx zR_0).mp q)) hr hc hrel hlv hol (z_oks_t hos)
  · exact k2 _ _ _ _ (h2 (fun w => q ((zR_le hx zR_0).mpr w))) hr hc hrel hlv hol (z_oks_t hos)
theorem S_goto {off : Int} {tgt : Nat} (hd : decode (mC M) pc = .ok (.goto off, 3)) (ht : (pc : Int) + off = (tgt : Int)) (k : z_Snd M E tgt K) : z_Snd M E pc K := by
  intro ls st g D hw X p l e R s m args below meth c Z b H locs cells slots arr n0 s0 hr hc hrel hlv hol hos
  refine lv_goto hr.1 hr.2.1 hd ht ?_
  exact k _ _ _ _ hw hr hc hrel hlv hol hos
def w_cut (M : MI) (E : En) (pc : Nat) : WP := fun ls st g D => z_WF M E pc ls st g D
theorem S_cut : z_Snd M E pc (w_cut M E pc) := fun _ _ _ _ h => h
def zsw : List Nat → Int → Int → (Nat → Prop) → Prop
  | [], _, _, _ => True
  | t :: r, lo, x, f => (x = lo → f t) ∧ zsw r (lo + 1) x f
theorem zsw_e : ∀ {ts : List Nat} {lo x : Int} {f : Nat → Prop}, zsw ts lo x f → ∀ (j t : Nat), ts[j]? = some t → x = lo + j → f t
  | [], _, _, _, _, j, t, h, _ => by simp at h
  | a :: r, lo, x, f, hz, 0, t, h, e => by
    cases h
    exact hz.1 (by omega)
  | a :: r, lo, x, f, hz, j + 1, t, h, e => by
    exact zsw_e hz.2 j t h (by omega)
/-- a switch: each way leads to a place of its own -/
def w_tsw (M : MI) (E : En) (lo : Int) (ts : List Nat) (d : Nat) : WP := fun ls st g D => pI st fun x t => zsw ts lo x (fun q => z_WF M E q ls t g D) ∧ ((x < lo ∨ lo + (ts.length : Int) ≤ x) → z_WF M E d ls t g D)
theorem S_tsw {lo hi dflt : Int} {offs : Array Int} {len d : Nat} {ts : List Nat} (hd : decode (mC M) pc = .ok (.tableswitch dflt lo hi offs, len)) (hh : hi + 1 = lo + (ts.length : Int)) (h0 : (pc : Int) + dflt = (d : Int)) (ho : offs.toList.map (fun off => (pc : Int) + off) = (ts.map fun t : Nat => (t : Int))) : z_Snd M E pc (w_tsw M E lo ts d) := by
  intro ls st g D hw X p l e R s m args below meth c Z b H locs cells slots arr n0 s0 hr hc hrel hlv hol hos
  obtain ⟨x, t, rfl, h1, h2⟩ := pI_e hw
  have hx : zR x := z_oks_h hos
  by_cases hq : x < lo ∨ hi < x
  · refine lv_tableOut hr.1 hr.2.1 hd (tgt := d) (by rw [zR_toInt hx]; exact hq) h0 ?_
    exact h2 (by omega) hr hc hrel hlv hol (z_oks_t hos)
  · have hj : (x - lo).toNat < ts.length := by omega
    have hlen : offs.size = ts.length := by
      have := congrArg List.length ho
      simpa using this
    have hjo : (x - lo).toNat < offs.size := by omega
    have e1 : (pc : Int) + offs[(x - lo).toNat] = (ts[(x - lo).toNat] : Int) := by
      have e2 := congrArg (fun l => l[(x - lo).toNat]?) ho
      simp only [List.getElem?_map, Array.getElem?_toList] at e2
      rw [Array.getElem?_eq_getElem hjo, List.getElem?_eq_getElem hj] at e2
      simpa using e2
    refine lv_tableIn hr.1 hr.2.1 hd (off := offs[(x - lo).toNat]) (tgt := ts[(x - lo).toNat]) (by rw [zR_toInt hx]; omega) (by rw [zR_toInt hx]; omega) (by rw [zR_toInt hx]; exact Array.getElem?_eq_getElem hjo) e1 ?_
    exact zsw_e h1 (x - lo).toNat _ (List.getElem?_eq_getElem hj) (by omega) hr hc hrel hlv hol (z_oks_t hos)
-- ends
def w_iret (E : En) : WP := fun _ st g D => pI st fun x t => t = [] ∧ g.1 = E.1.1 ∧ g.2.1 = E.1.2 ∧ E.2.2 x g D
def w_zret (E : En) : WP := fun _ st g D => pI st fun x t => t = [] ∧ g.1 = E.1.1 ∧ g.2.1 = E.1.2 ∧ (x = 0 ∨ x = 1) ∧ E.2.2 x g D
def w_lret (E : En) : WP := fun _ st g D => pJ st fun x t => t = [] ∧ g.1 = E.1.1 ∧ g.2.1 = E.1.2 ∧ E.2.2 x g D
def w_vret (E : En) : WP := fun _ st g D => st = [] ∧ g.1 = E.1.1 ∧ g.2.1 = E.1.2 ∧ E.2.2 0 g D
theorem z_fin {M : MI} {E : En} {X : Xe} {p : Program} {l : Launch} {e : Env} {R : Room} {s : State} {m : MethodId} {args : Array Value} {below : List Frame} {meth : Method} {c : Code} {Z : State → Prop} {b n0 s0 : Nat} {H : Heap} {locs : List Loc} {cells slots : Nat} {arr : Array Slot} {g : Gm} {D : Mem} {x : Int} {pc : Nat} (hr : z_Run M E X p l e R s m args below meth c Z b n0 s0) (hc : z_Cn E n0 s0 g cells slots) (hrel : z_Rel X g D s H locs) (h1 : g.1 = E.1.1) (h2 : g.2.1 = E.1.2) (hok : z_rok (mR M) x) (hQ : E.2.2 x g D) (hd : decode (mC M) pc = .ok (z_ri (mR M), 1)) : W p l e R s m args below meth c H locs cells slots Z (F0 m pc arr (z_rs (mR M) x)) :=
  hr.2.2.2.2.2.2.2.2.2.2 H locs g D x pc cells slots arr hrel hQ h1 h2 hc hok hd
theorem S_iret (hd : decode (mC M) pc = .ok (.ireturn, 1)) (ht : mR M = some .int) : z_Snd M E pc (w_iret E) := by
  intro ls st g D hw X p l e R s m args below meth c Z b H locs cells slots arr n0 s0 hr hc hrel hlv hol hos
  obtain ⟨x, t, rfl, rfl, h1, h2, h⟩ := pI_e hw
  have h9 := z_fin (x := x) (pc := pc) (arr := arr) hr hc hrel h1 h2 (by rw [ht]; exact ⟨z_oks_h hos, rfl⟩) h (by rw [ht]; exact hd)
  rw [ht] at h9
  exact h9
theorem S_zret (hd : decode (mC M) pc = .ok (.ireturn, 1)) (ht : mR M = some .boolean) : z_Snd M E pc (w_zret E) := by
  intro ls st g D hw X p l e R s m args below meth c Z b H locs cells slots arr n0 s0 hr hc hrel hlv hol hos
  obtain ⟨x, t, rfl, rfl, h1, h2, h0, h⟩ := pI_e hw
  have h9 := z_fin (x := x) (pc := pc) (arr := arr) hr hc hrel h1 h2 (by rw [ht]; exact ⟨z_oks_h hos, by rcases h0 with rfl | rfl <;> rfl⟩) h (by rw [ht]; exact hd)
  rw [ht] at h9
  exact h9
theorem S_lret (hd : decode (mC M) pc = .ok (.lreturn, 1)) (ht : mR M = some .long) : z_Snd M E pc (w_lret E) := by
  intro ls st g D hw X p l e R s m args below meth c Z b H locs cells slots arr n0 s0 hr hc hrel hlv hol hos
  obtain ⟨x, t, rfl, rfl, h1, h2, h⟩ := pJ_e hw
  have h9 := z_fin (x := x) (pc := pc) (arr := arr) hr hc hrel h1 h2 (by rw [ht]; exact z_oks_h hos) h (by rw [ht]; exact hd)
  rw [ht] at h9
  exact h9
theorem S_vret (hd : decode (mC M) pc = .ok (.return_, 1)) (ht : mR M = none) : z_Snd M E pc (w_vret E) := by
  intro ls st g D hw X p l e R s m args below meth c Z b H locs cells slots arr n0 s0 hr hc hrel hlv hol hos
  obtain ⟨rfl, h1, h2, h⟩ := hw
  have h9 := z_fin (x := 0) (pc := pc) (arr := arr) hr hc hrel h1 h2 (by rw [ht]; rfl) h (by rw [ht]; exact hd)
  rw [ht] at h9
  exact h9
end Rows
