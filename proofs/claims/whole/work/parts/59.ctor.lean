/-! ===== 59: constructors ===== -/
/-- what stands so far, as a list of shapes -/
def gl (l : List Sh) (sl : Nat) : Gm := (l.length, sl, fun o => l.getD o (.inr (true, 0)))
theorem gl_1 {l : List Sh} {sl : Nat} : (gl l sl).1 = l.length := rfl
theorem gl_2 {l : List Sh} {sl : Nat} : (gl l sl).2.1 = sl := rfl
theorem gl_n {l : List Sh} {sl n : Nat} {sh : Sh} : zNew (gl l sl) sh n = gl (l ++ [sh]) (sl + n) := by
  unfold zNew gl
  refine Prod.ext (by simp) (Prod.ext rfl ?_)
  funext o
  show (if o = l.length then sh else l.getD o (.inr (true, 0))) = (l ++ [sh]).getD o (.inr (true, 0))
  rw [List.getD_eq_getElem?_getD, List.getD_eq_getElem?_getD, List.getElem?_append]
  by_cases h : o = l.length
  · rw [if_pos h, if_neg (by omega), h, Nat.sub_self]
    rfl
  · rw [if_neg h]
    by_cases h2 : o < l.length
    · rw [if_pos h2]
    · rw [if_neg h2, List.getElem?_eq_none (by omega), List.getElem?_eq_none (by simp; omega)]
theorem gl_f {l : List Sh} {sl o ci k kd : Nat} {ks : List Kd} (h : l[o]? = some (.inl (ci, ks))) (hk : ks[k]? = some (.inr kd)) : z_f (gl l sl) o ci k kd := by
  refine ⟨(List.getElem?_eq_some_iff.mp h).1, ks, ?_, hk⟩
  show l.getD o (.inr (true, 0)) = _
  rw [List.getD_eq_getElem?_getD, h]
  rfl
theorem gl_s {l : List Sh} {sl o ci k t : Nat} {ks : List Kd} (h : l[o]? = some (.inl (ci, ks))) : zSR (gl l sl) o k t = gl (l.set o (.inl (ci, ks.set k (.inl t)))) sl := by
  have hlt := (List.getElem?_eq_some_iff.mp h).1
  unfold zSR gl
  refine Prod.ext (by simp) (Prod.ext rfl ?_)
  funext q
  show (if q = o then (match l.getD o (.inr (true, 0)) with
    | .inl (ci, ks) => .inl (ci, ks.set k (.inl t))
    | x => x) else l.getD q (.inr (true, 0))) = (l.set o (.inl (ci, ks.set k (.inl t)))).getD q (.inr (true, 0))
  rw [List.getD_eq_getElem?_getD, List.getD_eq_getElem?_getD, List.getD_eq_getElem?_getD, h, List.getElem?_set]
  by_cases e : q = o
  · rw [if_pos e, if_pos e.symm, if_pos hlt]
    rfl
  · rw [if_neg e, if_neg (fun w => e w.symm)]
theorem gP {l S : List Sh} {m i : Nat} {x : Sh} (hm : l.length = m) (h : S[i]? = some x) : (l ++ S)[m + i]? = some x := by
  rw [List.getElem?_append_right (by omega), ← hm, Nat.add_sub_cancel_left]
  exact h
theorem gF {l S : List Sh} {sl m i ci k kd : Nat} {ks : List Kd} (hm : l.length = m) (h : S[i]? = some (.inl (ci, ks))) (hk : ks[k]? = some (.inr kd)) : z_f (gl (l ++ S) sl) (m + i) ci k kd := gl_f (gP hm h) hk
theorem gS {l S : List Sh} {sl m i ci k t : Nat} {ks : List Kd} (hm : l.length = m) (h : S[i]? = some (.inl (ci, ks))) : zSR (gl (l ++ S) sl) (m + i) k t = gl (l ++ S.set i (.inl (ci, ks.set k (.inl t)))) sl := by
  rw [gl_s (gP hm h), List.set_append_right _ _ (by omega), ← hm, Nat.add_sub_cancel_left]
abbrev zE0 (g : Gm) (mc ms : Nat) (Q : Int → Gm → Mem → Prop) : En := ((g.1 + mc, g.2.1 + ms), (0, fun _ => 0), Q)
theorem z_ct {M : MI} {mc ms : Nat} {as ls : List AV} {g : Gm} {D : Mem} {Q : Int → Gm → Mem → Prop} {K : En → WP} (hM : z_MI M) (hs : ∀ E, z_Snd M E 0 (K E)) (hl : zent as (mN M) = ls) (hn : (zal as).length ≤ mN M) (h : K (zE0 g mc ms Q) ls [] g D) : z_Ct M mc ms as g D Q := by
  refine z_Ct.of (K := K (zE0 g mc ms Q)) hM hl hn ?_ h
  exact hs (zE0 g mc ms Q)
theorem k_ald {K : WP} {m : Nat} {ls t : List AV} {g : Gm} {D : Mem} (h : K (zr m :: ls) (zr m :: t) g D) : w_ald 0 K (zr m :: ls) t g D := ⟨trivial, h⟩
theorem k_0 {K : WP} {m : Nat} {ls : List AV} {g : Gm} {D : Mem} (h : K (zr m :: ls) [zr m] g D) : w_ald 0 (w_oinit (w_ald 0 K)) (zr m :: ls) [] g D := ⟨trivial, by decide, trivial, h⟩
theorem k_vret {g : Gm} {mc ms : Nat} {Q : Int → Gm → Mem → Prop} {ls : List AV} {l : List Sh} {sl : Nat} {D : Mem} (h1 : l.length = g.1 + mc) (h2 : sl = g.2.1 + ms) (h : Q 0 (gl l sl) D) : w_vret (zE0 g mc ms Q) ls [] (gl l sl) D := ⟨rfl, h1, h2, h⟩
-- a row
def dRow (D : Mem) (o : Nat) : Mem := zZ D (o + 1)
def lRow (m n : Nat) : List Sh := [.inl (2, [.inl (m + 1)]), .inr (false, n)]
theorem k_newa {E : En} {K : WP} {ls t : List AV} {l : List Sh} {sl m n : Nat} {x : Int} {bz : Bool} {D : Mem} (hm : l.length = m) (hx : x = n) (hn : n ≤ 100000) (h1 : m + 1 ≤ E.1.1) (h2 : sl + n ≤ E.1.2) (h : K ls (zr m :: t) (gl (l ++ [.inr (bz, n)]) (sl + n)) (zZ D m)) : w_newa (E := E) bz K ls (zi x :: t) (gl l sl) D := by
  subst hx
  show 0 ≤ (n : Int) ∧ (n : Int) ≤ 100000 ∧ l.length + 1 ≤ E.1.1 ∧ sl + (n : Int).toNat ≤ E.1.2 ∧ K ls (zr l.length :: t) (zNew (gl l sl) (.inr (bz, (n : Int).toNat)) (n : Int).toNat) (zZ D l.length)
  rw [Int.toNat_natCast, gl_n, hm]
  exact ⟨by omega, by omega, h1, h2, h⟩
theorem k_put {K : WP} {ls t : List AV} {l S : List Sh} {sl m i ci k x : Nat} {ks : List Kd} {D : Mem} (hm : l.length = m) (hi : S[i]? = some (.inl (ci, ks))) (hk : ks[k]? = some (.inr 3)) (h : K ls t (gl (l ++ S.set i (.inl (ci, ks.set k (.inl x)))) sl) D) : w_putR ci k K ls (zr x :: zr (m + i) :: t) (gl (l ++ S) sl) D := by
  show z_f (gl (l ++ S) sl) (m + i) ci k 3 ∧ K ls t (zSR (gl (l ++ S) sl) (m + i) k x) D
  rw [gS hm hi]
  exact ⟨gF hm hi hk, h⟩
theorem i_Row {l : List Sh} {sl m n : Nat} {D : Mem} {Q : Int → Gm → Mem → Prop} (hm : l.length = m) (hn : n ≤ 100000) (hQ : Q 0 (gl (l ++ lRow m n) (sl + n)) (dRow D m)) : z_Ct miX2_init 1 n [zr m, zi n] (gl (l ++ [.inl (2, kd0_X2)]) sl) D Q := by
  refine z_ct (K := tX2_init_0) (ls := [zr m, zi n]) mk_X2_init sX2_init_0 rfl (Nat.le_of_ble_eq_true rfl) ?_
  refine k_0 ?_
  show (1 : Nat) ≤ 8 ∧ w_newa (E := zE0 (gl (l ++ [.inl (2, kd0_X2)]) sl) 1 n Q) false (w_putR 2 0 (w_vret (zE0 (gl (l ++ [.inl (2, kd0_X2)]) sl) 1 n Q))) [zr m, zi n] [zi (max 0 n), zr m] (gl (l ++ [.inl (2, kd0_X2)]) sl) D
  refine ⟨by decide, k_newa (m := m + 1) (n := n) (by simp [hm]) (by omega) hn (by show _ ≤ (l ++ _).length + 1; simp [hm]) (by show _ ≤ sl + n; omega) ?_⟩
  rw [List.append_assoc]
  refine k_put (S := [.inl (2, kd0_X2), .inr (false, n)]) (i := 0) hm rfl rfl ?_
  exact k_vret (by show _ = (l ++ _).length + 1; simp [hm]) rfl hQ
/-- a new object in a field of an object that is being laid -/
theorem k_Obj {E : En} {K KK : WP} {ls as : List AV} {l S L : List Sh} {sl sl' m j i ci k c nk no ns : Nat} {ks kd : List Kd} {mi : MI} {D D2 : Mem} (hm : l.length = m) (hj : S.length = j) (hi : S[i]? = some (.inl (ci, ks))) (hk : ks[k]? = some (.inr 3)) (hkd : kd.length = nk) (hs : sl + nk + ns = sl') (hKK : ∀ g D, (∃ mc ms : Nat, g.1 + mc ≤ E.1.1 ∧ g.2.1 + ms ≤ E.1.2 ∧ z_Ct mi mc ms as g D (fun _ g' D' => w_putR ci k K ls [zr (m + j), zr (m + i)] g' D')) → KK ls [zr (m + j), zr (m + j), zr (m + i)] g D) (hI : ∀ Q : Int → Gm → Mem → Prop, Q 0 (gl ((l ++ S) ++ L) sl') D2 → z_Ct mi no ns as (gl ((l ++ S) ++ [.inl (c, kd)]) (sl + nk)) (zZ D (m + j)) Q) (h1 : m + j + 1 + no ≤ E.1.1) (h2 : sl' ≤ E.1.2) (h : K ls [] (gl (l ++ (S.set i (.inl (ci, ks.set k (.inl (m + j)))) ++ L)) sl') D2) : w_new (E := E) c kd (w_dup KK) ls [zr (m + i)] (gl (l ++ S) sl) D := by
  have hl : (l ++ S).length = m + j := by simp [hm, hj]
  show (l ++ S).length + 1 ≤ E.1.1 ∧ sl + kd.length ≤ E.1.2 ∧ True ∧ KK ls [zr (l ++ S).length, zr (l ++ S).length, zr (m + i)] (zNew (gl (l ++ S) sl) (.inl (c, kd)) kd.length) (zZ D (l ++ S).length)
  rw [gl_n, hl, hkd]
  refine ⟨by omega, by omega, trivial, hKK _ _ ⟨no, ns, ?_, ?_, hI _ ?_⟩⟩
  · show ((l ++ S) ++ _).length + no ≤ _
    rw [List.length_append, hl]
    exact h1
  · show sl + nk + ns ≤ _
    omega
  · rw [List.append_assoc]
    have h3 : i < S.length := (List.getElem?_eq_some_iff.mp hi).1
    refine k_put (i := i) hm (by rw [List.getElem?_append_left h3]; exact hi) hk ?_
    rw [List.set_append_left _ _ h3]
    exact h
theorem k_Row {E : En} {K : WP} {ls : List AV} {l S : List Sh} {sl sl' m j i ci k n : Nat} {x : Int} {ks : List Kd} {D : Mem} (hm : l.length = m) (hj : S.length = j) (hi : S[i]? = some (.inl (ci, ks))) (hk : ks[k]? = some (.inr 3)) (hx : x = n) (hn : n ≤ 100000) (hs : sl + 1 + n = sl') (h1 : m + j + 2 ≤ E.1.1) (h2 : sl' ≤ E.1.2) (h : K ls [] (gl (l ++ (S.set i (.inl (ci, ks.set k (.inl (m + j)))) ++ lRow (m + j) n)) sl') (dRow (zZ D (m + j)) (m + j))) : w_new (E := E) 2 kd0_X2 (w_dup (w_ic x (w_init E miX2_init 1 (w_putR ci k K)))) ls [zr (m + i)] (gl (l ++ S) sl) D := by
  subst hx
  subst hs
  exact k_Obj (mi := miX2_init) (as := [zr (m + j), zi n]) (no := 1) (ns := n) (nk := 1) hm hj hi hk rfl rfl (fun g D h => ⟨⟨_, _, rfl⟩, by show 2 ≤ 8; decide, h⟩) (fun Q hQ => i_Row (by simp [hm, hj]) hn hQ) (by omega) h2 h
-- rows
def dRows (D : Mem) (o : Nat) (lim wid : Int) : Mem := dRow (zZ (zU (zU D o 0 lim) o 1 wid) (o + 1)) (o + 1)
def lRows (m lim wid : Nat) : List Sh := .inl (3, [.inr 0, .inr 0, .inl (m + 1), .inr 0]) :: lRow (m + 1) (lim * wid)
theorem i_Rows {l : List Sh} {sl m lim wid : Nat} {D : Mem} {Q : Int → Gm → Mem → Prop} (hm : l.length = m) (hn : lim * wid ≤ 10000) (hQ : Q 0 (gl (l ++ lRows m lim wid) (sl + (1 + lim * wid))) (dRows D m lim wid)) : z_Ct miX3_init 2 (1 + lim * wid) [zr m, zi lim, zi wid] (gl (l ++ [.inl (3, kd0_X3)]) sl) D Q := by
  refine z_ct (K := tX3_init_0) (ls := [zr m, zi lim, zi wid]) mk_X3_init sX3_init_0 rfl (Nat.le_of_ble_eq_true rfl) ?_
  refine k_0 ?_
  refine ⟨gF (i := 0) hm rfl rfl, trivial, gF (i := 0) hm rfl rfl, ?_⟩
  refine k_ald ?_
  have e1 : (lim : Int) * wid = ((lim * wid : Nat) : Int) := by rw [Int.natCast_mul]
  refine k_Obj (K := w_vret (zE0 (gl (l ++ [.inl (3, kd0_X3)]) sl) 2 (1 + lim * wid) Q)) (mi := miX2_init) (as := [zr (m + 1), zi ((lim * wid : Nat) : Int)]) (i := 0) (j := 1) (k := 2) (ci := 3) (no := 1) (ns := lim * wid) (nk := 1) (L := lRow (m + 1) (lim * wid)) hm rfl rfl rfl rfl rfl (fun g D h => ⟨⟨by omega, by omega⟩, ⟨_, _, rfl⟩, by show 2 ≤ 8; decide, ?_⟩) (fun Q hQ => i_Row (by simp [hm]) (by omega) hQ) (by show _ ≤ (l ++ _).length + 2; simp [hm]) (by show _ ≤ sl + _; omega) ?_
  · rw [e1]
    exact h
  · exact k_vret (by show _ = (l ++ _).length + 2; simp [hm, lRow]) (by show _ = sl + _; omega) (by rw [Nat.add_assoc]; exact hQ)
theorem k_Rows {E : En} {K : WP} {ls : List AV} {l S : List Sh} {sl sl' m j i ci k lim wid : Nat} {x y : Int} {ks : List Kd} {D : Mem} (hm : l.length = m) (hj : S.length = j) (hi : S[i]? = some (.inl (ci, ks))) (hk : ks[k]? = some (.inr 3)) (hx : x = lim) (hy : y = wid) (hn : lim * wid ≤ 10000) (hs : sl + 4 + (1 + lim * wid) = sl') (h1 : m + j + 3 ≤ E.1.1) (h2 : sl' ≤ E.1.2) (h : K ls [] (gl (l ++ (S.set i (.inl (ci, ks.set k (.inl (m + j)))) ++ lRows (m + j) lim wid)) sl') (dRows (zZ D (m + j)) (m + j) lim wid)) : w_new (E := E) 3 kd0_X3 (w_dup (w_ic x (w_ic y (w_init E miX3_init 2 (w_putR ci k K))))) ls [zr (m + i)] (gl (l ++ S) sl) D := by
  subst hx
  subst hy
  subst hs
  exact k_Obj (mi := miX3_init) (as := [zr (m + j), zi lim, zi wid]) (no := 2) (ns := 1 + lim * wid) (nk := 4) hm hj hi hk rfl rfl (fun g D h => ⟨⟨_, _, rfl⟩, by show 2 ≤ 8; decide, h⟩) (fun Q hQ => i_Rows (by simp [hm, hj]) hn hQ) (by omega) h2 h
-- ways
def lWays (m : Nat) : List Sh := .inl (4, [.inl (m + 1), .inl (m + 3), .inr 0, .inr 0]) :: (lRow (m + 1) 400 ++ lRow (m + 3) 20)
def dWays (D : Mem) (m : Nat) : Mem := dRow (zZ (dRow (zZ D (m + 1)) (m + 1)) (m + 3)) (m + 3)
theorem i_Ways {l : List Sh} {sl m : Nat} {D : Mem} {Q : Int → Gm → Mem → Prop} (hm : l.length = m) (hQ : Q 0 (gl (l ++ lWays m) (sl + 422)) (dWays D m)) : z_Ct miX4_init 4 422 [zr m] (gl (l ++ [.inl (4, kd0_X4)]) sl) D Q := by
  refine z_ct (K := tX4_init_0) (ls := [zr m]) mk_X4_init sX4_init_0 rfl (Nat.le_of_ble_eq_true rfl) ?_
  have hE : (zE0 (gl (l ++ [.inl (4, kd0_X4)]) sl) 4 422 Q).1.1 = m + 5 := by show (l ++ _).length + 4 = _; simp [hm]
  refine k_0 ?_
  refine k_Row (i := 0) (j := 1) (n := 400) (sl' := sl + 401) hm rfl rfl rfl rfl (by decide) (by omega) (by rw [hE]; omega) (by show _ ≤ sl + 422; omega) ?_
  refine k_ald ?_
  refine k_Row (i := 0) (j := 3) (n := 20) (sl' := sl + 422) hm rfl rfl rfl rfl (by decide) (by omega) (by rw [hE]; show m + 3 + 2 ≤ _; omega) (by show _ ≤ sl + 422; omega) ?_
  exact k_vret (by show (l ++ _).length = (l ++ _).length + 4; simp [hm, lRow]) rfl hQ
theorem k_Ways {E : En} {K : WP} {ls : List AV} {l S : List Sh} {sl sl' m j i ci k : Nat} {ks : List Kd} {D : Mem} (hm : l.length = m) (hj : S.length = j) (hi : S[i]? = some (.inl (ci, ks))) (hk : ks[k]? = some (.inr 3)) (hs : sl + 4 + 422 = sl') (h1 : m + j + 5 ≤ E.1.1) (h2 : sl' ≤ E.1.2) (h : K ls [] (gl (l ++ (S.set i (.inl (ci, ks.set k (.inl (m + j)))) ++ lWays (m + j))) sl') (dWays (zZ D (m + j)) (m + j))) : w_new (E := E) 4 kd0_X4 (w_dup (w_init E miX4_init 0 (w_putR ci k K))) ls [zr (m + i)] (gl (l ++ S) sl) D := by
  subst hs
  exact k_Obj (mi := miX4_init) (as := [zr (m + j)]) (no := 4) (ns := 422) (nk := 4) hm hj hi hk rfl rfl (fun g D h => ⟨⟨_, _, rfl⟩, by show 2 ≤ 8; decide, h⟩) (fun Q hQ => i_Ways (by simp [hm, hj]) hQ) (by omega) h2 h
-- a back
def lBack (m : Nat) : List Sh := .inl (0, [.inl (m + 1), .inl (m + 4), .inl (m + 7), .inl (m + 10), .inl (m + 13), .inl (m + 16), .inl (m + 19), .inl (m + 22), .inr 0]) :: (lRows (m + 1) 6 2 ++ lRows (m + 4) 6 5 ++ lRows (m + 7) 4 2 ++ lRows (m + 10) 5 3 ++ lRows (m + 13) 6 4 ++ lRows (m + 16) 6 4 ++ lRows (m + 19) 8 19 ++ lWays (m + 22))
def dBack (D : Mem) (m : Nat) : Mem := dWays (zZ (dRows (zZ (dRows (zZ (dRows (zZ (dRows (zZ (dRows (zZ (dRows (zZ (dRows (zZ (D) (m + 1)) (m + 1) 6 2) (m + 4)) (m + 4) 6 5) (m + 7)) (m + 7) 4 2) (m + 10)) (m + 10) 5 3) (m + 13)) (m + 13) 6 4) (m + 16)) (m + 16) 6 4) (m + 19)) (m + 19) 8 19) (m + 22)) (m + 22)
theorem i_Back {l : List Sh} {sl m : Nat} {D : Mem} {Q : Int → Gm → Mem → Prop} (hm : l.length = m) (hQ : Q 0 (gl (l ++ lBack m) (sl + 726)) (dBack D m)) : z_Ct miX0_init 26 726 [zr m] (gl (l ++ [.inl (0, kd0_X0)]) sl) D Q := by
  refine z_ct (K := tX0_init_0) (ls := [zr m]) mk_X0_init sX0_init_0 rfl (Nat.le_of_ble_eq_true rfl) ?_
  have hE : (zE0 (gl (l ++ [.inl (0, kd0_X0)]) sl) 26 726 Q).1.1 = m + 27 := by show (l ++ _).length + 26 = _; simp [hm]
  have hF : (zE0 (gl (l ++ [.inl (0, kd0_X0)]) sl) 26 726 Q).1.2 = sl + 726 := rfl
  refine k_0 ?_
  refine k_Rows (i := 0) (j := 1) (lim := 6) (wid := 2) (sl' := sl + 17) hm rfl rfl rfl rfl rfl (by decide) (by omega) (by rw [hE]; omega) (by rw [hF]; omega) ?_
  refine k_ald ?_
  refine k_Rows (i := 0) (j := 4) (lim := 6) (wid := 5) (sl' := sl + 52) hm rfl rfl rfl rfl rfl (by decide) (by omega) (by rw [hE]; omega) (by rw [hF]; omega) ?_
  refine k_ald ?_
  refine k_Rows (i := 0) (j := 7) (lim := 4) (wid := 2) (sl' := sl + 65) hm rfl rfl rfl rfl rfl (by decide) (by omega) (by rw [hE]; omega) (by rw [hF]; omega) ?_
  refine k_ald ?_
  refine k_Rows (i := 0) (j := 10) (lim := 5) (wid := 3) (sl' := sl + 85) hm rfl rfl rfl rfl rfl (by decide) (by omega) (by rw [hE]; omega) (by rw [hF]; omega) ?_
  refine k_ald ?_
  refine k_Rows (i := 0) (j := 13) (lim := 6) (wid := 4) (sl' := sl + 114) hm rfl rfl rfl rfl rfl (by decide) (by omega) (by rw [hE]; omega) (by rw [hF]; omega) ?_
  refine k_ald ?_
  refine k_Rows (i := 0) (j := 16) (lim := 6) (wid := 4) (sl' := sl + 143) hm rfl rfl rfl rfl rfl (by decide) (by omega) (by rw [hE]; omega) (by rw [hF]; omega) ?_
  refine k_ald ?_
  refine k_Rows (i := 0) (j := 19) (lim := 8) (wid := 19) (sl' := sl + 300) hm rfl rfl rfl rfl rfl (by decide) (by omega) (by rw [hE]; omega) (by rw [hF]; omega) ?_
  refine k_ald ?_
  refine k_Ways (i := 0) (j := 22) (sl' := sl + 726) hm rfl rfl rfl (by omega) (by rw [hE]; omega) (by rw [hF]; omega) ?_
  exact k_vret (by show (l ++ lBack m).length = (l ++ _).length + 26; simp [hm, lBack, lRows, lRow, lWays]) rfl hQ
theorem k_Back {E : En} {K : WP} {ls : List AV} {l S : List Sh} {sl sl' m j i ci k : Nat} {ks : List Kd} {D : Mem} (hm : l.length = m) (hj : S.length = j) (hi : S[i]? = some (.inl (ci, ks))) (hk : ks[k]? = some (.inr 3)) (hs : sl + 9 + 726 = sl') (h1 : m + j + 27 ≤ E.1.1) (h2 : sl' ≤ E.1.2) (h : K ls [] (gl (l ++ (S.set i (.inl (ci, ks.set k (.inl (m + j)))) ++ lBack (m + j))) sl') (dBack (zZ D (m + j)) (m + j))) : w_new (E := E) 0 kd0_X0 (w_dup (w_init E miX0_init 0 (w_putR ci k K))) ls [zr (m + i)] (gl (l ++ S) sl) D := by
  subst hs
  exact k_Obj (mi := miX0_init) (as := [zr (m + j)]) (no := 26) (ns := 726) (nk := 9) hm hj hi hk rfl rfl (fun g D h => ⟨⟨_, _, rfl⟩, by show 2 ≤ 8; decide, h⟩) (fun Q hQ => i_Back (by simp [hm, hj]) hQ) (by omega) h2 h
-- a reader
def lRead (m : Nat) : List Sh := .inl (1, [.inl (m + 1), .inr 0, .inr 0, .inr 0, .inr 0, .inr 0]) :: lRow (m + 1) 150
def dRead (D : Mem) (m : Nat) : Mem := dRow (zZ D (m + 1)) (m + 1)
theorem i_Read {l : List Sh} {sl m : Nat} {D : Mem} {Q : Int → Gm → Mem → Prop} (hm : l.length = m) (hQ : Q 0 (gl (l ++ lRead m) (sl + 151)) (dRead D m)) : z_Ct miX1_init 2 151 [zr m] (gl (l ++ [.inl (1, kd0_X1)]) sl) D Q := by
  refine z_ct (K := tX1_init_0) (ls := [zr m]) mk_X1_init sX1_init_0 rfl (Nat.le_of_ble_eq_true rfl) ?_
  have hE : (zE0 (gl (l ++ [.inl (1, kd0_X1)]) sl) 2 151 Q).1.1 = m + 3 := by show (l ++ _).length + 2 = _; simp [hm]
  refine k_0 ?_
  refine k_Row (i := 0) (j := 1) (n := 150) (sl' := sl + 151) hm rfl rfl rfl rfl (by decide) (by omega) (by rw [hE]; omega) (by show _ ≤ sl + 151; omega) ?_
  exact k_vret (by show (l ++ _).length = (l ++ _).length + 2; simp [hm, lRow]) rfl hQ
theorem k_Read {E : En} {K : WP} {ls : List AV} {l S : List Sh} {sl sl' m j i ci k : Nat} {ks : List Kd} {D : Mem} (hm : l.length = m) (hj : S.length = j) (hi : S[i]? = some (.inl (ci, ks))) (hk : ks[k]? = some (.inr 3)) (hs : sl + 6 + 151 = sl') (h1 : m + j + 3 ≤ E.1.1) (h2 : sl' ≤ E.1.2) (h : K ls [] (gl (l ++ (S.set i (.inl (ci, ks.set k (.inl (m + j)))) ++ lRead (m + j))) sl') (dRead (zZ D (m + j)) (m + j))) : w_new (E := E) 1 kd0_X1 (w_dup (w_init E miX1_init 0 (w_putR ci k K))) ls [zr (m + i)] (gl (l ++ S) sl) D := by
  subst hs
  exact k_Obj (mi := miX1_init) (as := [zr (m + j)]) (no := 2) (ns := 151) (nk := 6) hm hj hi hk rfl rfl (fun g D h => ⟨⟨_, _, rfl⟩, by show 2 ≤ 8; decide, h⟩) (fun Q hQ => i_Read (by simp [hm, hj]) hQ) (by omega) h2 h
-- the class
theorem lBack_len {m : Nat} : (lBack m).length = 27 := rfl
theorem lRead_len {m : Nat} : (lRead m).length = 3 := rfl
theorem lRow_len {m n : Nat} : (lRow m n).length = 2 := rfl
def dIron (D : Mem) : Mem := dRow (zZ (dRow (zZ (dRow (zZ (dRow (zZ (dRow (zZ (zU (zU (dRow (zZ (dRead (zZ (dBack (zZ (dBack (zZ (dBack (zZ (dBack (zZ (D) 1) 1) 28) 28) 55) 55) 82) 82) 109) 109) 112) 112) 0 8 0) 0 9 1) 114) 114) 116) 116) 118) 118) 120) 120) 122) 122
theorem i_Iron {D : Mem} {Q : Int → Gm → Mem → Prop} (hQ : Q 0 (gl (shL.take 124) 3443) (dIron D)) : z_Ct miX5_init 123 3428 [zr 0] (gl ([] ++ [.inl (5, kd0_X5)]) 15) D Q := by
  refine z_ct (K := tX5_init_0) (ls := [zr 0]) mk_X5_init sX5_init_0 rfl (Nat.le_of_ble_eq_true rfl) ?_
  refine k_0 ?_
  refine k_Back (l := []) (m := 0) (i := 0) (j := 1) (sl' := 750) rfl (by simp [lBack_len, lRead_len, lRow_len]) rfl rfl (by decide) (by show _ ≤ 124; decide) (by show _ ≤ 3443; decide) ?_
  refine k_ald ?_
  refine k_Back (l := []) (m := 0) (i := 0) (j := 28) (sl' := 1485) rfl (by simp [lBack_len, lRead_len, lRow_len]) rfl rfl (by decide) (by show _ ≤ 124; decide) (by show _ ≤ 3443; decide) ?_
  refine k_ald ?_
  refine k_Back (l := []) (m := 0) (i := 0) (j := 55) (sl' := 2220) rfl (by simp [lBack_len, lRead_len, lRow_len]) rfl rfl (by decide) (by show _ ≤ 124; decide) (by show _ ≤ 3443; decide) ?_
  refine k_ald ?_
  refine k_Back (l := []) (m := 0) (i := 0) (j := 82) (sl' := 2955) rfl (by simp [lBack_len, lRead_len, lRow_len]) rfl rfl (by decide) (by show _ ≤ 124; decide) (by show _ ≤ 3443; decide) ?_
  refine k_ald ?_
  refine k_Read (l := []) (m := 0) (i := 0) (j := 109) (sl' := 3112) rfl (by simp [lBack_len, lRead_len, lRow_len]) rfl rfl (by decide) (by show _ ≤ 124; decide) (by show _ ≤ 3443; decide) ?_
  refine k_ald ?_
  refine k_Row (l := []) (m := 0) (i := 0) (j := 112) (n := 3) (sl' := 3116) rfl (by simp [lBack_len, lRead_len, lRow_len]) rfl rfl (by decide) (by decide) (by decide) (by show _ ≤ 124; decide) (by show _ ≤ 3443; decide) ?_
  refine k_ald ?_
  refine ⟨gF (i := 0) rfl rfl rfl, ?_⟩
  refine k_ald ?_
  refine ⟨gF (i := 0) rfl rfl rfl, ?_⟩
  refine k_ald ?_
  refine k_Row (l := []) (m := 0) (i := 0) (j := 114) (n := 61) (sl' := 3178) rfl (by simp [lBack_len, lRead_len, lRow_len]) rfl rfl (by decide) (by decide) (by decide) (by show _ ≤ 124; decide) (by show _ ≤ 3443; decide) ?_
  refine k_ald ?_
  refine k_Row (l := []) (m := 0) (i := 0) (j := 116) (n := 61) (sl' := 3240) rfl (by simp [lBack_len, lRead_len, lRow_len]) rfl rfl (by decide) (by decide) (by decide) (by show _ ≤ 124; decide) (by show _ ≤ 3443; decide) ?_
  refine k_ald ?_
  refine k_Row (l := []) (m := 0) (i := 0) (j := 118) (n := 100) (sl' := 3341) rfl (by simp [lBack_len, lRead_len, lRow_len]) rfl rfl (by decide) (by decide) (by decide) (by show _ ≤ 124; decide) (by show _ ≤ 3443; decide) ?_
  refine k_ald ?_
  refine k_Row (l := []) (m := 0) (i := 0) (j := 120) (n := 36) (sl' := 3378) rfl (by simp [lBack_len, lRead_len, lRow_len]) rfl rfl (by decide) (by decide) (by decide) (by show _ ≤ 124; decide) (by show _ ≤ 3443; decide) ?_
  refine k_ald ?_
  refine k_Row (l := []) (m := 0) (i := 0) (j := 122) (n := 64) (sl' := 3443) rfl (by simp [lBack_len, lRead_len, lRow_len]) rfl rfl (by decide) (by decide) (by decide) (by show _ ≤ 124; decide) (by show _ ≤ 3443; decide) ?_
  refine k_vret rfl rfl ?_
  exact hQ
theorem k_Arr {E : En} {K : WP} {ls : List AV} {l S S' : List Sh} {sl sl' m j i ci k n : Nat} {x : Int} {bz : Bool} {ks : List Kd} {D : Mem} (hm : l.length = m) (hj : S.length = j) (hi : S[i]? = some (.inl (ci, ks))) (hk : ks[k]? = some (.inr 3)) (hx : x = n) (hn : n ≤ 100000) (hs : sl + n = sl') (h1 : m + j + 1 ≤ E.1.1) (h2 : sl' ≤ E.1.2) (hS : S.set i (.inl (ci, ks.set k (.inl (m + j)))) ++ [.inr (bz, n)] = S') (h : K ls [] (gl (l ++ S') sl') (zZ D (m + j))) : w_ic x (w_newa (E := E) bz (w_putR ci k K)) ls [zr (m + i)] (gl (l ++ S) sl) D := by
  subst hs
  subst hS
  have h3 : i < S.length := (List.getElem?_eq_some_iff.mp hi).1
  refine k_newa (m := m + j) (n := n) (by simp [hm, hj]) hx hn h1 h2 ?_
  rw [List.append_assoc]
  refine k_put (i := i) hm (by rw [List.getElem?_append_left h3]; exact hi) hk ?_
  rw [List.set_append_left _ _ h3]
  exact h
def dMod (D : Mem) (m : Nat) : Mem := zU (zZ (zZ (zZ (zZ (zZ (zZ (zZ (zZ (zZ (zZ (zU (zU (zZ (zZ (zZ (D) (m + 1)) (m + 2)) (m + 3)) m 4 0) m 5 1) (m + 4)) (m + 5)) (m + 6)) (m + 7)) (m + 8)) (m + 9)) (m + 10)) (m + 11)) (m + 12)) (m + 13)) m 3 0
def lMod (m : Nat) : List Sh := .inl (6, [.inl (m + 1), .inl (m + 2), .inl (m + 3), .inr 0, .inr 2, .inr 2, .inl (m + 4), .inr 0, .inr 0, .inr 0, .inl (m + 5), .inl (m + 6), .inl (m + 7), .inl (m + 8), .inl (m + 9), .inr 0, .inl (m + 10), .inl (m + 11), .inl (m + 12), .inl (m + 13), .inr 2]) :: [.inr (false, 1146), .inr (true, 2), .inr (false, 150), .inr (false, 3), .inr (false, 20), .inr (false, 20), .inr (false, 6), .inr (false, 61), .inr (false, 61), .inr (false, 36), .inr (false, 7), .inr (false, 6), .inr (false, 6)]
theorem i_Mod {l : List Sh} {sl m : Nat} {D : Mem} {Q : Int → Gm → Mem → Prop} (hm : l.length = m) (hQ : Q 0 (gl (l ++ lMod m) (sl + 1524)) (dMod D m)) : z_Ct miX6_init 13 1524 [zr m] (gl (l ++ [.inl (6, kd0_X6)]) sl) D Q := by
  refine z_ct (K := tX6_init_0) (ls := [zr m]) mk_X6_init sX6_init_0 rfl (Nat.le_of_ble_eq_true rfl) ?_
  have hE : (zE0 (gl (l ++ [.inl (6, kd0_X6)]) sl) 13 1524 Q).1.1 = m + 14 := by show (l ++ _).length + 13 = _; simp [hm]
  have hF : (zE0 (gl (l ++ [.inl (6, kd0_X6)]) sl) 13 1524 Q).1.2 = sl + 1524 := rfl
  refine k_0 ?_
  refine k_Arr (S := [.inl (6, [.inr 3, .inr 3, .inr 3, .inr 0, .inr 2, .inr 2, .inr 3, .inr 0, .inr 0, .inr 0, .inr 3, .inr 3, .inr 3, .inr 3, .inr 3, .inr 0, .inr 3, .inr 3, .inr 3, .inr 3, .inr 2])]) (S' := [.inl (6, [.inl (m + 1), .inr 3, .inr 3, .inr 0, .inr 2, .inr 2, .inr 3, .inr 0, .inr 0, .inr 0, .inr 3, .inr 3, .inr 3, .inr 3, .inr 3, .inr 0, .inr 3, .inr 3, .inr 3, .inr 3, .inr 2]), .inr (false, 1146)]) (ks := [.inr 3, .inr 3, .inr 3, .inr 0, .inr 2, .inr 2, .inr 3, .inr 0, .inr 0, .inr 0, .inr 3, .inr 3, .inr 3, .inr 3, .inr 3, .inr 0, .inr 3, .inr 3, .inr 3, .inr 3, .inr 2]) (i := 0) (j := 1) (n := 1146) (sl' := sl + 1146) hm rfl rfl rfl (by decide) (by decide) (by omega) (by rw [hE]; omega) (by rw [hF]; omega) rfl ?_
  refine k_ald ?_
  refine k_Arr (S := [.inl (6, [.inl (m + 1), .inr 3, .inr 3, .inr 0, .inr 2, .inr 2, .inr 3, .inr 0, .inr 0, .inr 0, .inr 3, .inr 3, .inr 3, .inr 3, .inr 3, .inr 0, .inr 3, .inr 3, .inr 3, .inr 3, .inr 2]), .inr (false, 1146)]) (S' := [.inl (6, [.inl (m + 1), .inl (m + 2), .inr 3, .inr 0, .inr 2, .inr 2, .inr 3, .inr 0, .inr 0, .inr 0, .inr 3, .inr 3, .inr 3, .inr 3, .inr 3, .inr 0, .inr 3, .inr 3, .inr 3, .inr 3, .inr 2]), .inr (false, 1146), .inr (true, 2)]) (ks := [.inl (m + 1), .inr 3, .inr 3, .inr 0, .inr 2, .inr 2, .inr 3, .inr 0, .inr 0, .inr 0, .inr 3, .inr 3, .inr 3, .inr 3, .inr 3, .inr 0, .inr 3, .inr 3, .inr 3, .inr 3, .inr 2]) (i := 0) (j := 2) (n := 2) (sl' := sl + 1148) hm rfl rfl rfl (by decide) (by decide) (by omega) (by rw [hE]; omega) (by rw [hF]; omega) rfl ?_
  refine k_ald ?_
  refine k_Arr (S := [.inl (6, [.inl (m + 1), .inl (m + 2), .inr 3, .inr 0, .inr 2, .inr 2, .inr 3, .inr 0, .inr 0, .inr 0, .inr 3, .inr 3, .inr 3, .inr 3, .inr 3, .inr 0, .inr 3, .inr 3, .inr 3, .inr 3, .inr 2]), .inr (false, 1146), .inr (true, 2)]) (S' := [.inl (6, [.inl (m + 1), .inl (m + 2), .inl (m + 3), .inr 0, .inr 2, .inr 2, .inr 3, .inr 0, .inr 0, .inr 0, .inr 3, .inr 3, .inr 3, .inr 3, .inr 3, .inr 0, .inr 3, .inr 3, .inr 3, .inr 3, .inr 2]), .inr (false, 1146), .inr (true, 2), .inr (false, 150)]) (ks := [.inl (m + 1), .inl (m + 2), .inr 3, .inr 0, .inr 2, .inr 2, .inr 3, .inr 0, .inr 0, .inr 0, .inr 3, .inr 3, .inr 3, .inr 3, .inr 3, .inr 0, .inr 3, .inr 3, .inr 3, .inr 3, .inr 2]) (i := 0) (j := 3) (n := 150) (sl' := sl + 1298) hm rfl rfl rfl (by decide) (by decide) (by omega) (by rw [hE]; omega) (by rw [hF]; omega) rfl ?_
  refine k_ald ?_
  refine ⟨gF (S := [.inl (6, [.inl (m + 1), .inl (m + 2), .inl (m + 3), .inr 0, .inr 2, .inr 2, .inr 3, .inr 0, .inr 0, .inr 0, .inr 3, .inr 3, .inr 3, .inr 3, .inr 3, .inr 0, .inr 3, .inr 3, .inr 3, .inr 3, .inr 2]), .inr (false, 1146), .inr (true, 2), .inr (false, 150)]) (i := 0) hm rfl rfl, ?_⟩
  refine k_ald ?_
  refine ⟨gF (S := [.inl (6, [.inl (m + 1), .inl (m + 2), .inl (m + 3), .inr 0, .inr 2, .inr 2, .inr 3, .inr 0, .inr 0, .inr 0, .inr 3, .inr 3, .inr 3, .inr 3, .inr 3, .inr 0, .inr 3, .inr 3, .inr 3, .inr 3, .inr 2]), .inr (false, 1146), .inr (true, 2), .inr (false, 150)]) (i := 0) hm rfl rfl, ?_⟩
  refine k_ald ?_
  refine k_Arr (S := [.inl (6, [.inl (m + 1), .inl (m + 2), .inl (m + 3), .inr 0, .inr 2, .inr 2, .inr 3, .inr 0, .inr 0, .inr 0, .inr 3, .inr 3, .inr 3, .inr 3, .inr 3, .inr 0, .inr 3, .inr 3, .inr 3, .inr 3, .inr 2]), .inr (false, 1146), .inr (true, 2), .inr (false, 150)]) (S' := [.inl (6, [.inl (m + 1), .inl (m + 2), .inl (m + 3), .inr 0, .inr 2, .inr 2, .inl (m + 4), .inr 0, .inr 0, .inr 0, .inr 3, .inr 3, .inr 3, .inr 3, .inr 3, .inr 0, .inr 3, .inr 3, .inr 3, .inr 3, .inr 2]), .inr (false, 1146), .inr (true, 2), .inr (false, 150), .inr (false, 3)]) (ks := [.inl (m + 1), .inl (m + 2), .inl (m + 3), .inr 0, .inr 2, .inr 2, .inr 3, .inr 0, .inr 0, .inr 0, .inr 3, .inr 3, .inr 3, .inr 3, .inr 3, .inr 0, .inr 3, .inr 3, .inr 3, .inr 3, .inr 2]) (i := 0) (j := 4) (n := 3) (sl' := sl + 1301) hm rfl rfl rfl (by decide) (by decide) (by omega) (by rw [hE]; omega) (by rw [hF]; omega) rfl ?_
  refine k_ald ?_
  refine k_Arr (S := [.inl (6, [.inl (m + 1), .inl (m + 2), .inl (m + 3), .inr 0, .inr 2, .inr 2, .inl (m + 4), .inr 0, .inr 0, .inr 0, .inr 3, .inr 3, .inr 3, .inr 3, .inr 3, .inr 0, .inr 3, .inr 3, .inr 3, .inr 3, .inr 2]), .inr (false, 1146), .inr (true, 2), .inr (false, 150), .inr (false, 3)]) (S' := [.inl (6, [.inl (m + 1), .inl (m + 2), .inl (m + 3), .inr 0, .inr 2, .inr 2, .inl (m + 4), .inr 0, .inr 0, .inr 0, .inl (m + 5), .inr 3, .inr 3, .inr 3, .inr 3, .inr 0, .inr 3, .inr 3, .inr 3, .inr 3, .inr 2]), .inr (false, 1146), .inr (true, 2), .inr (false, 150), .inr (false, 3), .inr (false, 20)]) (ks := [.inl (m + 1), .inl (m + 2), .inl (m + 3), .inr 0, .inr 2, .inr 2, .inl (m + 4), .inr 0, .inr 0, .inr 0, .inr 3, .inr 3, .inr 3, .inr 3, .inr 3, .inr 0, .inr 3, .inr 3, .inr 3, .inr 3, .inr 2]) (i := 0) (j := 5) (n := 20) (sl' := sl + 1321) hm rfl rfl rfl (by decide) (by decide) (by omega) (by rw [hE]; omega) (by rw [hF]; omega) rfl ?_
  refine k_ald ?_
  refine k_Arr (S := [.inl (6, [.inl (m + 1), .inl (m + 2), .inl (m + 3), .inr 0, .inr 2, .inr 2, .inl (m + 4), .inr 0, .inr 0, .inr 0, .inl (m + 5), .inr 3, .inr 3, .inr 3, .inr 3, .inr 0, .inr 3, .inr 3, .inr 3, .inr 3, .inr 2]), .inr (false, 1146), .inr (true, 2), .inr (false, 150), .inr (false, 3), .inr (false, 20)]) (S' := [.inl (6, [.inl (m + 1), .inl (m + 2), .inl (m + 3), .inr 0, .inr 2, .inr 2, .inl (m + 4), .inr 0, .inr 0, .inr 0, .inl (m + 5), .inl (m + 6), .inr 3, .inr 3, .inr 3, .inr 0, .inr 3, .inr 3, .inr 3, .inr 3, .inr 2]), .inr (false, 1146), .inr (true, 2), .inr (false, 150), .inr (false, 3), .inr (false, 20), .inr (false, 20)]) (ks := [.inl (m + 1), .inl (m + 2), .inl (m + 3), .inr 0, .inr 2, .inr 2, .inl (m + 4), .inr 0, .inr 0, .inr 0, .inl (m + 5), .inr 3, .inr 3, .inr 3, .inr 3, .inr 0, .inr 3, .inr 3, .inr 3, .inr 3, .inr 2]) (i := 0) (j := 6) (n := 20) (sl' := sl + 1341) hm rfl rfl rfl (by decide) (by decide) (by omega) (by rw [hE]; omega) (by rw [hF]; omega) rfl ?_
  refine k_ald ?_
  refine k_Arr (S := [.inl (6, [.inl (m + 1), .inl (m + 2), .inl (m + 3), .inr 0, .inr 2, .inr 2, .inl (m + 4), .inr 0, .inr 0, .inr 0, .inl (m + 5), .inl (m + 6), .inr 3, .inr 3, .inr 3, .inr 0, .inr 3, .inr 3, .inr 3, .inr 3, .inr 2]), .inr (false, 1146), .inr (true, 2), .inr (false, 150), .inr (false, 3), .inr (false, 20), .inr (false, 20)]) (S' := [.inl (6, [.inl (m + 1), .inl (m + 2), .inl (m + 3), .inr 0, .inr 2, .inr 2, .inl (m + 4), .inr 0, .inr 0, .inr 0, .inl (m + 5), .inl (m + 6), .inl (m + 7), .inr 3, .inr 3, .inr 0, .inr 3, .inr 3, .inr 3, .inr 3, .inr 2]), .inr (false, 1146), .inr (true, 2), .inr (false, 150), .inr (false, 3), .inr (false, 20), .inr (false, 20), .inr (false, 6)]) (ks := [.inl (m + 1), .inl (m + 2), .inl (m + 3), .inr 0, .inr 2, .inr 2, .inl (m + 4), .inr 0, .inr 0, .inr 0, .inl (m + 5), .inl (m + 6), .inr 3, .inr 3, .inr 3, .inr 0, .inr 3, .inr 3, .inr 3, .inr 3, .inr 2]) (i := 0) (j := 7) (n := 6) (sl' := sl + 1347) hm rfl rfl rfl (by decide) (by decide) (by omega) (by rw [hE]; omega) (by rw [hF]; omega) rfl ?_
  refine k_ald ?_
  refine k_Arr (S := [.inl (6, [.inl (m + 1), .inl (m + 2), .inl (m + 3), .inr 0, .inr 2, .inr 2, .inl (m + 4), .inr 0, .inr 0, .inr 0, .inl (m + 5), .inl (m + 6), .inl (m + 7), .inr 3, .inr 3, .inr 0, .inr 3, .inr 3, .inr 3, .inr 3, .inr 2]), .inr (false, 1146), .inr (true, 2), .inr (false, 150), .inr (false, 3), .inr (false, 20), .inr (false, 20), .inr (false, 6)]) (S' := [.inl (6, [.inl (m + 1), .inl (m + 2), .inl (m + 3), .inr 0, .inr 2, .inr 2, .inl (m + 4), .inr 0, .inr 0, .inr 0, .inl (m + 5), .inl (m + 6), .inl (m + 7), .inl (m + 8), .inr 3, .inr 0, .inr 3, .inr 3, .inr 3, .inr 3, .inr 2]), .inr (false, 1146), .inr (true, 2), .inr (false, 150), .inr (false, 3), .inr (false, 20), .inr (false, 20), .inr (false, 6), .inr (false, 61)]) (ks := [.inl (m + 1), .inl (m + 2), .inl (m + 3), .inr 0, .inr 2, .inr 2, .inl (m + 4), .inr 0, .inr 0, .inr 0, .inl (m + 5), .inl (m + 6), .inl (m + 7), .inr 3, .inr 3, .inr 0, .inr 3, .inr 3, .inr 3, .inr 3, .inr 2]) (i := 0) (j := 8) (n := 61) (sl' := sl + 1408) hm rfl rfl rfl (by decide) (by decide) (by omega) (by rw [hE]; omega) (by rw [hF]; omega) rfl ?_
  refine k_ald ?_
  refine k_Arr (S := [.inl (6, [.inl (m + 1), .inl (m + 2), .inl (m + 3), .inr 0, .inr 2, .inr 2, .inl (m + 4), .inr 0, .inr 0, .inr 0, .inl (m + 5), .inl (m + 6), .inl (m + 7), .inl (m + 8), .inr 3, .inr 0, .inr 3, .inr 3, .inr 3, .inr 3, .inr 2]), .inr (false, 1146), .inr (true, 2), .inr (false, 150), .inr (false, 3), .inr (false, 20), .inr (false, 20), .inr (false, 6), .inr (false, 61)]) (S' := [.inl (6, [.inl (m + 1), .inl (m + 2), .inl (m + 3), .inr 0, .inr 2, .inr 2, .inl (m + 4), .inr 0, .inr 0, .inr 0, .inl (m + 5), .inl (m + 6), .inl (m + 7), .inl (m + 8), .inl (m + 9), .inr 0, .inr 3, .inr 3, .inr 3, .inr 3, .inr 2]), .inr (false, 1146), .inr (true, 2), .inr (false, 150), .inr (false, 3), .inr (false, 20), .inr (false, 20), .inr (false, 6), .inr (false, 61), .inr (false, 61)]) (ks := [.inl (m + 1), .inl (m + 2), .inl (m + 3), .inr 0, .inr 2, .inr 2, .inl (m + 4), .inr 0, .inr 0, .inr 0, .inl (m + 5), .inl (m + 6), .inl (m + 7), .inl (m + 8), .inr 3, .inr 0, .inr 3, .inr 3, .inr 3, .inr 3, .inr 2]) (i := 0) (j := 9) (n := 61) (sl' := sl + 1469) hm rfl rfl rfl (by decide) (by decide) (by omega) (by rw [hE]; omega) (by rw [hF]; omega) rfl ?_
  refine k_ald ?_
  refine k_Arr (S := [.inl (6, [.inl (m + 1), .inl (m + 2), .inl (m + 3), .inr 0, .inr 2, .inr 2, .inl (m + 4), .inr 0, .inr 0, .inr 0, .inl (m + 5), .inl (m + 6), .inl (m + 7), .inl (m + 8), .inl (m + 9), .inr 0, .inr 3, .inr 3, .inr 3, .inr 3, .inr 2]), .inr (false, 1146), .inr (true, 2), .inr (false, 150), .inr (false, 3), .inr (false, 20), .inr (false, 20), .inr (false, 6), .inr (false, 61), .inr (false, 61)]) (S' := [.inl (6, [.inl (m + 1), .inl (m + 2), .inl (m + 3), .inr 0, .inr 2, .inr 2, .inl (m + 4), .inr 0, .inr 0, .inr 0, .inl (m + 5), .inl (m + 6), .inl (m + 7), .inl (m + 8), .inl (m + 9), .inr 0, .inl (m + 10), .inr 3, .inr 3, .inr 3, .inr 2]), .inr (false, 1146), .inr (true, 2), .inr (false, 150), .inr (false, 3), .inr (false, 20), .inr (false, 20), .inr (false, 6), .inr (false, 61), .inr (false, 61), .inr (false, 36)]) (ks := [.inl (m + 1), .inl (m + 2), .inl (m + 3), .inr 0, .inr 2, .inr 2, .inl (m + 4), .inr 0, .inr 0, .inr 0, .inl (m + 5), .inl (m + 6), .inl (m + 7), .inl (m + 8), .inl (m + 9), .inr 0, .inr 3, .inr 3, .inr 3, .inr 3, .inr 2]) (i := 0) (j := 10) (n := 36) (sl' := sl + 1505) hm rfl rfl rfl (by decide) (by decide) (by omega) (by rw [hE]; omega) (by rw [hF]; omega) rfl ?_
  refine k_ald ?_
  refine k_Arr (S := [.inl (6, [.inl (m + 1), .inl (m + 2), .inl (m + 3), .inr 0, .inr 2, .inr 2, .inl (m + 4), .inr 0, .inr 0, .inr 0, .inl (m + 5), .inl (m + 6), .inl (m + 7), .inl (m + 8), .inl (m + 9), .inr 0, .inl (m + 10), .inr 3, .inr 3, .inr 3, .inr 2]), .inr (false, 1146), .inr (true, 2), .inr (false, 150), .inr (false, 3), .inr (false, 20), .inr (false, 20), .inr (false, 6), .inr (false, 61), .inr (false, 61), .inr (false, 36)]) (S' := [.inl (6, [.inl (m + 1), .inl (m + 2), .inl (m + 3), .inr 0, .inr 2, .inr 2, .inl (m + 4), .inr 0, .inr 0, .inr 0, .inl (m + 5), .inl (m + 6), .inl (m + 7), .inl (m + 8), .inl (m + 9), .inr 0, .inl (m + 10), .inl (m + 11), .inr 3, .inr 3, .inr 2]), .inr (false, 1146), .inr (true, 2), .inr (false, 150), .inr (false, 3), .inr (false, 20), .inr (false, 20), .inr (false, 6), .inr (false, 61), .inr (false, 61), .inr (false, 36), .inr (false, 7)]) (ks := [.inl (m + 1), .inl (m + 2), .inl (m + 3), .inr 0, .inr 2, .inr 2, .inl (m + 4), .inr 0, .inr 0, .inr 0, .inl (m + 5), .inl (m + 6), .inl (m + 7), .inl (m + 8), .inl (m + 9), .inr 0, .inl (m + 10), .inr 3, .inr 3, .inr 3, .inr 2]) (i := 0) (j := 11) (n := 7) (sl' := sl + 1512) hm rfl rfl rfl (by decide) (by decide) (by omega) (by rw [hE]; omega) (by rw [hF]; omega) rfl ?_
  refine k_ald ?_
  refine k_Arr (S := [.inl (6, [.inl (m + 1), .inl (m + 2), .inl (m + 3), .inr 0, .inr 2, .inr 2, .inl (m + 4), .inr 0, .inr 0, .inr 0, .inl (m + 5), .inl (m + 6), .inl (m + 7), .inl (m + 8), .inl (m + 9), .inr 0, .inl (m + 10), .inl (m + 11), .inr 3, .inr 3, .inr 2]), .inr (false, 1146), .inr (true, 2), .inr (false, 150), .inr (false, 3), .inr (false, 20), .inr (false, 20), .inr (false, 6), .inr (false, 61), .inr (false, 61), .inr (false, 36), .inr (false, 7)]) (S' := [.inl (6, [.inl (m + 1), .inl (m + 2), .inl (m + 3), .inr 0, .inr 2, .inr 2, .inl (m + 4), .inr 0, .inr 0, .inr 0, .inl (m + 5), .inl (m + 6), .inl (m + 7), .inl (m + 8), .inl (m + 9), .inr 0, .inl (m + 10), .inl (m + 11), .inl (m + 12), .inr 3, .inr 2]), .inr (false, 1146), .inr (true, 2), .inr (false, 150), .inr (false, 3), .inr (false, 20), .inr (false, 20), .inr (false, 6), .inr (false, 61), .inr (false, 61), .inr (false, 36), .inr (false, 7), .inr (false, 6)]) (ks := [.inl (m + 1), .inl (m + 2), .inl (m + 3), .inr 0, .inr 2, .inr 2, .inl (m + 4), .inr 0, .inr 0, .inr 0, .inl (m + 5), .inl (m + 6), .inl (m + 7), .inl (m + 8), .inl (m + 9), .inr 0, .inl (m + 10), .inl (m + 11), .inr 3, .inr 3, .inr 2]) (i := 0) (j := 12) (n := 6) (sl' := sl + 1518) hm rfl rfl rfl (by decide) (by decide) (by omega) (by rw [hE]; omega) (by rw [hF]; omega) rfl ?_
  refine k_ald ?_
  refine k_Arr (S := [.inl (6, [.inl (m + 1), .inl (m + 2), .inl (m + 3), .inr 0, .inr 2, .inr 2, .inl (m + 4), .inr 0, .inr 0, .inr 0, .inl (m + 5), .inl (m + 6), .inl (m + 7), .inl (m + 8), .inl (m + 9), .inr 0, .inl (m + 10), .inl (m + 11), .inl (m + 12), .inr 3, .inr 2]), .inr (false, 1146), .inr (true, 2), .inr (false, 150), .inr (false, 3), .inr (false, 20), .inr (false, 20), .inr (false, 6), .inr (false, 61), .inr (false, 61), .inr (false, 36), .inr (false, 7), .inr (false, 6)]) (S' := [.inl (6, [.inl (m + 1), .inl (m + 2), .inl (m + 3), .inr 0, .inr 2, .inr 2, .inl (m + 4), .inr 0, .inr 0, .inr 0, .inl (m + 5), .inl (m + 6), .inl (m + 7), .inl (m + 8), .inl (m + 9), .inr 0, .inl (m + 10), .inl (m + 11), .inl (m + 12), .inl (m + 13), .inr 2]), .inr (false, 1146), .inr (true, 2), .inr (false, 150), .inr (false, 3), .inr (false, 20), .inr (false, 20), .inr (false, 6), .inr (false, 61), .inr (false, 61), .inr (false, 36), .inr (false, 7), .inr (false, 6), .inr (false, 6)]) (ks := [.inl (m + 1), .inl (m + 2), .inl (m + 3), .inr 0, .inr 2, .inr 2, .inl (m + 4), .inr 0, .inr 0, .inr 0, .inl (m + 5), .inl (m + 6), .inl (m + 7), .inl (m + 8), .inl (m + 9), .inr 0, .inl (m + 10), .inl (m + 11), .inl (m + 12), .inr 3, .inr 2]) (i := 0) (j := 13) (n := 6) (sl' := sl + 1524) hm rfl rfl rfl (by decide) (by decide) (by omega) (by rw [hE]; omega) (by rw [hF]; omega) rfl ?_
  refine k_ald ?_
  refine ⟨gF (S := [.inl (6, [.inl (m + 1), .inl (m + 2), .inl (m + 3), .inr 0, .inr 2, .inr 2, .inl (m + 4), .inr 0, .inr 0, .inr 0, .inl (m + 5), .inl (m + 6), .inl (m + 7), .inl (m + 8), .inl (m + 9), .inr 0, .inl (m + 10), .inl (m + 11), .inl (m + 12), .inl (m + 13), .inr 2]), .inr (false, 1146), .inr (true, 2), .inr (false, 150), .inr (false, 3), .inr (false, 20), .inr (false, 20), .inr (false, 6), .inr (false, 61), .inr (false, 61), .inr (false, 36), .inr (false, 7), .inr (false, 6), .inr (false, 6)]) (i := 0) hm rfl rfl, ?_⟩
  exact k_vret (by show (l ++ lMod m).length = (l ++ _).length + 13; simp [hm, lMod]) rfl hQ
