/-! ===== 62: the machine at the law's entry ===== -/
theorem z_arrI {args : Array Value} {s : State} (h : (Cond.arrayClass .int).before args s = true) : ∃ cA, ArrOfT s cA .int ∧ va_RA s cA .int := by
  obtain ⟨c, k, comp, h1, h2, h3⟩ := Cond.arrayClass_spec h
  exact ⟨c, fun n z => ⟨fun _ q => (by cases q), k, h2, comp, h3⟩, h1⟩
theorem z_arrZ {args : Array Value} {s : State} (h : (Cond.arrayClass .boolean).before args s = true) : ∃ cA, ArrOfT s cA .boolean ∧ va_RA s cA .boolean := by
  obtain ⟨c, k, comp, h1, h2, h3⟩ := Cond.arrayClass_spec h
  exact ⟨c, fun n z => ⟨fun _ q => (by cases q), k, h2, comp, h3⟩, h1⟩
abbrev z_tm (i : Nat) : Term := Term.string RX1 (zsx i)
theorem z_g1 : ∀ i, i < 7 → Cond.exactly (z_tm i) "java/lang/String" ∈ flatC (Jvm.Cond.and given_1 narrow_1) := by decide +kernel
theorem z_g2 : ∀ i, i < 7 → Cond.eq (.field (z_tm i) "java/lang/String" "coder" "B") (.int 0) ∈ flatC (Jvm.Cond.and given_1 narrow_1) := by decide +kernel
theorem z_g3 : ∀ i, i < 7 → Cond.arrayOf (.field (z_tm i) "java/lang/String" "value" "[B") .byte ∈ flatC (Jvm.Cond.and given_1 narrow_1) := by decide +kernel
theorem z_g4 : ∀ i, i < 7 → Cond.eq (.length (.field (z_tm i) "java/lang/String" "value" "[B")) (.int (Int32.ofNat (zsl.getD i 0))) ∈ flatC (Jvm.Cond.and given_1 narrow_1) := by decide +kernel
theorem z_g5 : ∀ i, i < 7 → ∀ j, j < zsl.getD i 0 → Cond.eq (.elem (.field (z_tm i) "java/lang/String" "value" "[B") (.int (Int32.ofNat j))) (.int ((zsb.getD i []).getD j 0)) ∈ flatC (Jvm.Cond.and given_1 narrow_1) := by decide +kernel
theorem z_g6 : ∀ i, i < 7 → ∀ j, j < 7 → i ≠ j → Cond.not (Cond.eq (z_tm i) (z_tm j)) ∈ flatC (Jvm.Cond.and given_1 narrow_1) ∨ Cond.not (Cond.eq (z_tm j) (z_tm i)) ∈ flatC (Jvm.Cond.and given_1 narrow_1) := by decide +kernel
theorem z_g7 : ∀ i, i < 7 → Cond.stringRef RX1 (zsx i) (zst i) ∈ lw_tbl := by decide +kernel
theorem z_g8 : ∀ q ∈ z_nst, Cond.methodLinkNest q.1 q.2.1 q.2.2.1 q.2.2.2 ∈ lw_tbl := by decide +kernel
theorem z_start {s : State} {b : Nat} (hts : ∀ w ∈ lw_tbl, w.before #[Value.ref b] s = true) (hgv : (Jvm.Cond.and given_1 narrow_1).before #[Value.ref b] s = true) : ∃ X : Xe, X.2.2.2.1 = s.heap.size ∧ z_St X s := by
  have hs := flat_of_before _ hgv
  have hz : ∀ w ∈ z_tb, w.before #[Value.ref b] s = true := fun w hw => hts w (List.mem_filter.mp hw).1
  obtain ⟨c0, i0, k0⟩ := u_known (n := 9) hz cw_X0 (hts (.instantiable RX0 9) (by decide +kernel))
  obtain ⟨c1, i1, k1⟩ := u_known (n := 6) hz cw_X1 (hts (.instantiable RX1 6) (by decide +kernel))
  obtain ⟨c2, i2, k2⟩ := u_known (n := 1) hz cw_X2 (hts (.instantiable RX2 1) (by decide +kernel))
  obtain ⟨c3, i3, k3⟩ := u_known (n := 4) hz cw_X3 (hts (.instantiable RX3 4) (by decide +kernel))
  obtain ⟨c4, i4, k4⟩ := u_known (n := 4) hz cw_X4 (hts (.instantiable RX4 4) (by decide +kernel))
  obtain ⟨c5, i5, k5⟩ := u_known (n := 15) hz cw_X5 (hts (.instantiable RX5 15) (by decide +kernel))
  obtain ⟨c6, i6, k6⟩ := u_known (n := 21) hz cw_X6 (hts (.instantiable RX6 21) (by decide +kernel))
  obtain ⟨dC, dI, hKc⟩ : ∃ (dC : Nat → ClassId) (dI : Nat → Nat → Nat), ∀ (k : Nat) (q : vw_C), clsL[k]? = some q → u_Kn s q.1 q.2.1 q.2.2 (dC k) (dI k) := by
    refine ⟨fun k => [c0, c1, c2, c3, c4, c5, c6].getD k 0, fun k => [i0, i1, i2, i3, i4, i5, i6].getD k i0, ?_⟩
    intro k q hq
    match k, hq with
    | 0, hq => cases hq; exact k0
    | 1, hq => cases hq; exact k1
    | 2, hq => cases hq; exact k2
    | 3, hq => cases hq; exact k3
    | 4, hq => cases hq; exact k4
    | 5, hq => cases hq; exact k5
    | 6, hq => cases hq; exact k6
    | k + 7, hq => simp [clsL] at hq
  obtain ⟨aI, hI⟩ := z_arrI (hz _ ac_int)
  obtain ⟨aZ, hZ⟩ := z_arrZ (hz _ ac_bool)
  have hA : ∀ a : Nat, a < s.heap.size → ¬ s.heap.size ≤ a := fun a h q => by omega
  obtain ⟨adK, adV, hS, hE⟩ := vk_Sof (args := #[Value.ref b]) (s := s) (N := 7) (tm := z_tm) (len := zsl) (byt := zsb) (A := fun q => s.heap.size ≤ q) (by decide) (fun i hi => hs _ (z_g1 i hi)) (fun i hi => hs _ (z_g2 i hi)) (fun i hi => hs _ (z_g3 i hi)) (fun i hi => hs _ (z_g4 i hi)) (fun i hi j hj => hs _ (z_g5 i hi j hj)) (fun i j hi hj hij => (z_g6 i hi j hj hij).elim (fun q => Or.inl (hs _ q)) (fun q => Or.inr (hs _ q))) hA
  obtain ⟨v, hv, hvr⟩ := Cond.isRef_spec (hs (.isRef (.static "jdk/internal/util/Preconditions" "SIOOBE_FORMATTER" "Ljava/util/function/BiFunction;")) (by decide +kernel))
  obtain ⟨q7, hq7⟩ : ∃ q : Nat, (if q = 0 then Value.null else .ref (q - 1)) = v := by
    cases v with
    | null => exact ⟨0, rfl⟩
    | ref a => exact ⟨a + 1, by rw [if_neg (by omega), Nat.add_sub_cancel]⟩
    | _ => cases hvr
  refine ⟨((dC, dI), aI, aZ, s.heap.size, adK, fun i => if i = 7 then q7 else adV i), rfl, ⟨hKc, fun k q h => ?_⟩, ⟨fun i hi => ?_, hS.2⟩, fun k hk => vk_R.of (hts _ (z_g7 k hk)) (hE k hk), ?_, ?_, fun q hq => va_Nw.of rfl (hts _ (z_g8 q hq))⟩
  · match k, h with
    | 0, h => cases h; exact hI
    | 1, h => cases h; exact hZ
    | k + 2, h => simp at h
  · have := hS.1 i hi
    dsimp only
    rw [if_neg (by omega)]
    exact this
  · exact va_Zof (hts (.laysStatic "java/lang/String" "COMPACT_STRINGS" "Z") (by decide +kernel)) (hts (.initialized "java/lang/String") (by decide +kernel)) (va_eqi (hs (.eq (.static "java/lang/String" "COMPACT_STRINGS" "Z") (.int 1)) (by decide +kernel))) hA
  · refine va_Zof (hts (.laysStatic "jdk/internal/util/Preconditions" "SIOOBE_FORMATTER" "Ljava/util/function/BiFunction;") (by decide +kernel)) (hts (.initialized "jdk/internal/util/Preconditions") (by decide +kernel)) ?_ hA
    rw [hv, ← hq7]
    rfl
