/-! ===== 03: worlds, contracts, calls ===== -/
def zU (D : Mem) (o : Nat) (k x : Int) : Mem := fun o' k' => if o' = o ∧ k' = k then x else D o' k'
/-- a field of a kind; an array; a reference field and where it leads -/
def z_f (g : Gm) (o ci k kd : Nat) : Prop := o < g.1 ∧ ∃ ks : List Kd, g.2.2 o = .inl (ci, ks) ∧ ks[k]? = some (.inr kd)
def z_fr (g : Gm) (o ci k t : Nat) : Prop := o < g.1 ∧ ∃ ks : List Kd, g.2.2 o = .inl (ci, ks) ∧ ks[k]? = some (.inl t)
def zf (g : Gm) (o k : Nat) : Nat := match g.2.2 o with
  | .inl (_, ks) => (match ks[k]? with
    | some (.inl t) => t
    | _ => 0)
  | _ => 0
def z_a (g : Gm) (a : Nat) (bz : Bool) : Prop := a < g.1 ∧ ∃ n : Nat, n < 2147483648 ∧ g.2.2 a = .inr (bz, n)
def zn (g : Gm) (a : Nat) : Int := match g.2.2 a with
  | .inr (_, n) => (n : Int)
  | _ => 0
def z_o (g : Gm) (o ci : Nat) : Prop := o < g.1 ∧ ∃ ks : List Kd, g.2.2 o = .inl (ci, ks)
theorem z_f_o {g : Gm} {o ci k kd : Nat} (h : z_f g o ci k kd) : z_o g o ci := ⟨h.1, h.2.imp fun _ q => q.1⟩
theorem z_ws_get {X : Xe} {g : Gm} {D : Mem} {o : Nat} (h : o < g.1) : (z_ws X g D)[o]? = some (X.2.2.2.1 + o, z_ent X (g.2.2 o) (D o)) := by
  simp [z_ws, h]
theorem z_ws_obj {X : Xe} {g : Gm} {D : Mem} {o ci : Nat} {ks : List Kd} (h : o < g.1) (hs : g.2.2 o = .inl (ci, ks)) : (z_ws X g D)[o]? = some (X.2.2.2.1 + o, .inr (ci, ks.mapIdx (fun j kd => z_fv X (D o) j kd))) := by
  rw [z_ws_get h, hs]; rfl
theorem z_ws_arr {X : Xe} {g : Gm} {D : Mem} {o n : Nat} {bz : Bool} (h : o < g.1) (hs : g.2.2 o = .inr (bz, n)) : (z_ws X g D)[o]? = some (X.2.2.2.1 + o, .inl ((if bz = true then X.2.2.1 else X.2.1), n, .inl (fun j => Int32.ofInt (D o j)))) := by
  rw [z_ws_get h, hs]; rfl
theorem z_D {X : Xe} {g : Gm} {D : Mem} : va_D (z_A X) (z_ws X g D) := by
  have key : ∀ (k : Nat) (q : Nat × va_E), (z_ws X g D)[k]? = some q → q.1 = X.2.2.2.1 + k := by
    intro k q hk
    unfold z_ws at hk
    rw [List.getElem?_map] at hk
    cases hr : (List.range g.1)[k]? with
    | none => rw [hr] at hk; cases hk
    | some i =>
      rw [hr] at hk
      cases hk
      have := (List.getElem?_eq_some_iff.mp hr).2
      rw [List.getElem_range] at this
      rw [this]
  refine ⟨fun i j p q hi hj h => ?_, fun k q hk => ?_⟩
  · have h1 := key i p hi
    have h2 := key j q hj
    omega
  · have h1 := key k q hk
    show X.2.2.2.1 ≤ q.1
    omega
theorem zU_ne {D : Mem} {o o' : Nat} {k x : Int} (h : o' ≠ o) : zU D o k x o' = D o' := by
  funext k'
  simp [zU, h]
theorem z_ws_up {X : Xe} {g : Gm} {D : Mem} {o : Nat} {k x : Int} : (z_ws X g D).set o (X.2.2.2.1 + o, z_ent X (g.2.2 o) (zU D o k x o)) = z_ws X g (zU D o k x) := by
  apply List.ext_getElem?
  intro i
  rw [List.getElem?_set]
  by_cases hi : i < g.1
  · by_cases ho : o = i
    · subst ho
      rw [if_pos rfl, z_ws_get hi, if_pos (by simpa [z_ws] using hi)]
    · rw [if_neg ho, z_ws_get hi, z_ws_get hi, zU_ne (Ne.symm ho)]
  · have e1 : (z_ws X g D)[i]? = none := by simp [z_ws]; omega
    have e2 : (z_ws X g (zU D o k x))[i]? = none := by simp [z_ws]; omega
    rw [e1, e2]
    split
    · rename_i ho
      subst ho
      rw [if_neg (by simpa [z_ws] using hi)]
    · rfl
theorem z_ent_up {X : Xe} {D : Mem} {o ci k kd : Nat} {ks : List Kd} {x : Int} (hk : ks[k]? = some (.inr kd)) : z_ent X (.inl (ci, ks)) (zU D o (k : Int) x o) = .inr (ci, (ks.mapIdx (fun j kd => z_fv X (D o) j kd)).set k (z_fv X (fun _ => x) k (.inr kd))) := by
  show Sum.inr (ci, _) = _
  congr 2
  apply List.ext_getElem?
  intro j
  rw [List.getElem?_set]
  have hl : k < ks.length := (List.getElem?_eq_some_iff.mp hk).1
  by_cases hj : k = j
  · subst hj
    rw [if_pos rfl, if_pos (by simpa using hl), List.getElem?_mapIdx, hk]
    simp [z_fv, zU]
  · rw [if_neg hj, List.getElem?_mapIdx, List.getElem?_mapIdx]
    cases ks[j]? with
    | none => rfl
    | some q =>
      have hne : ¬ ((j : Int) = (k : Int)) := by omega
      rcases q with q | q
      · rfl
      · simp [z_fv, zU, hne]
theorem z_ent_ua {X : Xe} {D : Mem} {o n : Nat} {bz : Bool} {i x : Int} (hi : 0 ≤ i) : z_ent X (.inr (bz, n)) (zU D o i x o) = .inl ((if bz = true then X.2.2.1 else X.2.1), n, .inl (upd (fun j => Int32.ofInt (D o j)) i.toNat (Int32.ofInt x))) := by
  have e0 : (fun j : Nat => Int32.ofInt (zU D o i x o (j : Int))) = upd (fun j => Int32.ofInt (D o j)) i.toNat (Int32.ofInt x) := by
    funext j
    by_cases h : j = i.toNat
    · subst h
      have e : ((i.toNat : Nat) : Int) = i := Int.toNat_of_nonneg hi
      simp [zU, upd, e]
    · have e : ¬ ((j : Int) = i) := by omega
      simp [zU, upd, h, e]
  show Sum.inl (_, n, Sum.inl _) = _
  rw [e0]
theorem z_in_up {g : Gm} {D : Mem} {o ci k kd : Nat} {ks : List Kd} {x : Int} (hin : z_in g D) (hs : g.2.2 o = .inl (ci, ks)) (hk : ks[k]? = some (.inr kd)) (h0 : kd = 0 → zR x) (h1 : kd = 1 → x = 0 ∨ x = 1) (h2 : kd = 2 → zR6 x) : z_in g (zU D o k x) := by
  intro q hq
  have hD := hin q hq
  by_cases e : q = o
  · subst e
    rw [hs] at hD ⊢
    intro j
    by_cases ej : j = k
    · subst ej
      rw [hk]
      refine ⟨fun e => ?_, fun e => ?_, fun e => ?_⟩ <;> (cases e; simp only [zU, and_self, if_true])
      · exact h0 rfl
      · exact h1 rfl
      · exact h2 rfl
    · have hne : ¬ ((j : Int) = (k : Int)) := by omega
      simp only [zU, hne, and_false, if_false]
      exact hD j
  · rw [zU_ne e]
    exact hD
theorem z_in_ua {g : Gm} {D : Mem} {o n : Nat} {bz : Bool} {i x : Int} (hin : z_in g D) (hs : g.2.2 o = .inr (bz, n)) (h0 : zR x) (h1 : bz = true → x = 0 ∨ x = 1) : z_in g (zU D o i x) := by
  intro q hq
  have hD := hin q hq
  by_cases e : q = o
  · subst e
    rw [hs] at hD ⊢
    intro j hj
    by_cases ej : (j : Int) = i
    · simp only [zU, ej, and_self, if_true]
      exact ⟨h0, h1⟩
    · simp only [zU, ej, and_false, if_false]
      exact hD j hj
  · rw [zU_ne e]
    exact hD
theorem z_St_to {X : Xe} {s U : State} {H : Heap} (h : z_St X s) (hk : ∀ q : Nat, q < s.heap.size → ¬ z_A X q → H[q]? = s.heap[q]?) (hU : U.heap = H) (hW : s.WarmedH U.vm) : z_St X U := by
  subst hU
  obtain ⟨h1, h2, h3, h4, h5, h6⟩ := h
  exact ⟨va_K.moved hW.alike h1, vk_S.moved hW.alike (vk_S.kept h2 hk), fun k hk => vk_R.warm hW (h3 k hk), va_Z.moved hW.alike (va_Z.kept h4 hk), va_Z.moved hW.alike (va_Z.kept h5 hk), fun q hq => va_Nw.warmM hW (h6 q hq)⟩
theorem z_St_calling {X : Xe} {U : State} {g : JFrame} {mk : MethodId} {a : Array Value} (h : z_St X U) : z_St X (U.calling g mk a) := by
  obtain ⟨h1, h2, h3, h4, h5, h6⟩ := h
  exact ⟨va_K.moved (u := U) (U := U.calling g mk a) (Vm.Alike.refl U.vm) h1, vk_S.moved (u := U) (U := U.calling g mk a) (Vm.Alike.refl U.vm) h2, fun k hk => vk_R.same (u := U) (U := U.calling g mk a) rfl (h3 k hk), va_Z.moved (u := U) (U := U.calling g mk a) (Vm.Alike.refl U.vm) h4, va_Z.moved (u := U) (U := U.calling g mk a) (Vm.Alike.refl U.vm) h5, fun q hq => va_Nw.same (u := U) (U := U.calling g mk a) rfl rfl (h6 q hq)⟩
-- contracts
def z_Pc (X : Xe) (b : Nat) (av : List AV) (g : Gm) (D : Mem) : Array Value → State → Prop := va_Pc (av.map (z_conc X b)) (fun U => U.heap.size = X.2.2.2.1 + g.1 ∧ va_P X.1 clsL (z_ws X g D) U.heap ∧ z_St X U)
def z_rv : Option FieldType → Int → Option Value
  | none, _ => none
  | some .long, x => some (.long (Int64.ofInt x))
  | some _, x => some (.int (Int32.ofInt x))
def z_Qc (M : MI) (X : Xe) (g : Gm) (mc ms : Nat) (Q : Int → Gm → Mem → Prop) : Array Value → State → Outcome → State → Prop := fun _ st oc t =>
  (∃ (x : Int) (g' : Gm) (D' : Mem), oc = .returned (z_rv (mR M) x) ∧ z_rok (mR M) x ∧ Q x g' D' ∧ g'.1 = g.1 + mc ∧ g'.2.1 = g.2.1 + ms ∧ t.heap.size = X.2.2.2.1 + g'.1 ∧ va_P X.1 clsL (z_ws X g' D') t.heap ∧ z_in g' D') ∧ va_F (z_A X) st t
def z_tb : List Cond := lw_tbl.filter goodWord
def z_wds (M : MI) : List Cond := Cond.code (mY M) (mC M) (mN M) (mR M) :: z_tb
def z_Ct (M : MI) (mc ms : Nat) (av : List AV) (g : Gm) (D : Mem) (Q : Int → Gm → Mem → Prop) : Prop := z_oks av → z_in g D → ∀ (l : Launch) (X : Xe) (b : Nat), Met l (mY M) (z_wds M) ({ frames := mF M, cells := mc, slots := ms, locals := mL M }) (z_Pc X b av g D) (z_Qc M X g mc ms Q) mc ms (z_A X)
/-- what a program decides of a method -/
def z_MI (M : MI) : Prop := plainName (mY M).cls = true ∧ Cond.code (mY M) (mC M) (mN M) (mR M) ∈ z_tb ∧ Cond.initialized (mY M).cls ∈ z_tb ∧ (mY M).cls ≠ "java/lang/invoke/MethodHandle" ∧ (mY M).cls ≠ "java/lang/invoke/VarHandle"
theorem z_blind {X : Xe} {b : Nat} {av : List AV} {g : Gm} {D : Mem} : FrameBlind (z_Pc X b av g D) := fun _ _ _ _ q => ⟨q.1, q.2.1, q.2.2.1, z_St_calling q.2.2.2⟩
theorem z_good : ∀ w ∈ z_tb, goodWord w = true := fun w h => (List.mem_filter.mp h).2
theorem z_wd {w : Cond} (i : Nat) (h : lw_tbl[i]? = some w) (hg : goodWord w = true) : w ∈ z_tb := List.mem_filter.mpr ⟨List.mem_of_getElem? h, hg⟩
theorem z_goodIn {M : MI} (h : z_MI M) {ws : List Cond} (hw : ∀ w ∈ ws, w ∈ z_tb) : GoodIn z_tb (ws ++ z_wds M) := by
  have key : ∀ w ∈ ws ++ z_wds M, w ∈ z_tb := by
    intro w hm
    rcases List.mem_append.mp hm with q | q
    · exact hw w q
    · rcases List.mem_cons.mp q with q | q
      · rw [q]; exact h.2.1
      · exact q
  exact fun w hm => ⟨key w hm, good_of_word (z_good w (key w hm))⟩
-- entry
def zal : List AV → List AV
  | [] => []
  | .inr (.inl x) :: t => zl x :: zm 1 :: zal t
  | v :: t => v :: zal t
def zent (av : List AV) (n : Nat) : List AV := zal av ++ List.replicate (n - (zal av).length) (zm 0)
theorem lg_sl_c (v : Value) (l : List Value) : lg_sl (v :: l) = (if v.category = 2 then [Slot.val v, .second] else [.val v]) ++ lg_sl l := by simp [lg_sl]
theorem zal_len {X : Xe} {b : Nat} : ∀ (av : List AV), (lg_sl (av.map (z_conc X b))).length = (zal av).length
  | [] => rfl
  | v :: t => by
    have ih := zal_len (X := X) (b := b) t
    have hc1 : ∀ w : AV, z_c1 w → (lg_sl ((w :: t).map (z_conc X b))).length = (zal t).length + 1 := by
      intro w hw
      have := c1_e (X := X) (b := b) hw
      rw [List.map_cons, lg_sl_c, this, List.length_append, ih]
      show 1 + (zal t).length = _
      omega
    rcases v with x | x | x | x | x
    · exact hc1 _ trivial
    · rw [List.map_cons]
      rw [lg_sl_c, List.length_append, ih]
      show 2 + (zal t).length = (zal t).length + 2
      omega
    · exact hc1 _ trivial
    · exact hc1 _ trivial
    · exact hc1 _ trivial
theorem zal_args {X : Xe} {b : Nat} : ∀ (av : List AV) (off k : Nat) (v : AV), (zal av)[k]? = some v → z_real v = true → (off + k, z_conc X b v) ∈ lv_args off (av.map (z_conc X b))
  | [], off, k, v, h, _ => by simp [zal] at h
  | w :: t, off, k, v, h, hr => by
    have ih := zal_args (X := X) (b := b) t
    have hc1 : ∀ u : AV, z_c1 u → (u :: zal t)[k]? = some v → (off + k, z_conc X b v) ∈ lv_args off ((u :: t).map (z_conc X b)) := by
      intro u hu h
      have hcat := c1_e (X := X) (b := b) hu
      rw [List.map_cons]
      unfold lv_args
      rw [hcat]
      cases k with
      | zero =>
        cases h
        exact List.mem_cons_self
      | succ k =>
        refine List.mem_cons_of_mem _ ?_
        have := ih (off + 1) k v h hr
        rw [show off + 1 + k = off + (k + 1) by omega] at this
        exact this
    rcases w with x | x | x | x | x
    · exact hc1 _ trivial h
    · rw [List.map_cons]
      show (off + k, z_conc X b v) ∈ (off, Value.long (Int64.ofInt x)) :: lv_args (off + 2) (t.map (z_conc X b))
      match k, h with
      | 0, h => cases h; exact List.mem_cons_self
      | 1, h => cases h; exact absurd hr (by decide)
      | k + 2, h =>
        refine List.mem_cons_of_mem _ ?_
        have := ih (off + 2) k v h hr
        rw [show off + 2 + k = off + (k + 2) by omega] at this
        exact this
    · exact hc1 _ trivial h
    · exact hc1 _ trivial h
    · exact hc1 _ trivial h
theorem zal_ok : ∀ {av : List AV}, z_oks av → z_oks (zal av)
  | [], _ => fun _ h => by cases h
  | v :: t, h => by
    have ih := zal_ok (z_oks_t h)
    have h0 := z_oks_h h
    rcases v with x | x | x | x | x
    · exact z_oks_c h0 ih
    · exact z_oks_c h0 (z_oks_c trivial ih)
    · exact z_oks_c h0 ih
    · exact z_oks_c h0 ih
    · exact z_oks_c h0 ih
theorem z_size {X : Xe} {g : Gm} {D : Mem} {p : Program} {l : Launch} {e : Env} {R : Room} {s : State} {m : MethodId} {args : Array Value} {below : List Frame} {meth : Method} {c : Code} {T : State} {H : Heap} {locs : List Loc} {cells slots n0 s0 : Nat} (Xs : Stand p l e R s m args below meth c T locs cells slots) (hT : T.heap = H) (hN : s.heap.size = X.2.2.2.1 + n0) {E : En} (hc : z_Cn E n0 s0 g cells slots) (hrel : z_Rel X g D s H locs) : H.size = X.2.2.2.1 + g.1 := by
  have h1 : T.heap.size ≤ s.heap.size + cells := Xs.same.2.2.1
  rw [hT] at h1
  have h2 := hc.1
  have h3 := hrel.2.1.1
  by_cases h0 : g.1 = 0
  · omega
  · have h4 : X.2.2.2.1 + (g.1 - 1) < H.size := (hrel.1 (g.1 - 1) _ (z_ws_get (by omega))).lt
    omega
theorem z_ret {M : MI} {X : Xe} {g : Gm} {mc ms : Nat} {Q : Int → Gm → Mem → Prop} {p : Program} {l : Launch} {e : Env} {R : Room} {s : State} {m : MethodId} {args : Array Value} {below : List Frame} {meth : Method} {c : Code} (hx : p.tables.exec = Jvm.exec) (hb : c.code = mC M) (hr : meth.sig.returnType = mR M) (hlocks : meth.locks = false) {H : Heap} {locs : List Loc} {g' : Gm} {D' : Mem} {x : Int} {pc cells slots : Nat} {arr : Array Slot} (hN : s.heap.size = X.2.2.2.1 + g.1)
    (hrel : z_Rel X g' D' s H locs) (hQ : Q x g' D') (h1 : g'.1 = g.1 + mc) (h2 : g'.2.1 = g.2.1 + ms) {E : En} (hc : z_Cn E g.1 g.2.1 g' cells slots) (hok : z_rok (mR M) x) (hd : decode (mC M) pc = .ok (z_ri (mR M), 1)) :
    W p l e R s m args below meth c H locs cells slots (MQ below (z_Qc M X g mc ms Q) args s mc ms (z_A X)) (F0 m pc arr (z_rs (mR M) x)) := by
  intro T hT Xs
  have hsz := z_size Xs hT hN hc hrel
  have e1 : cells = mc := by have := hc.1; omega
  have e2 : slots = ms := by have := hc.2.1; omega
  subst e1
  subst e2
  have key : ∀ t : State, t.heap = H → s.WarmedH t.vm → z_Qc M X g cells slots Q args s (.returned (z_rv (mR M) x)) t := by
    intro t ht _
    exact ⟨⟨x, g', D', rfl, hok, hQ, h1, h2, by rw [ht]; exact hsz, by rw [ht]; exact hrel.1, hrel.2.2⟩, hrel.2.1.F ht⟩
  refine (?_ : W p l e R s m args below meth c H locs cells slots (MQ below (z_Qc M X g cells slots Q) args s cells slots (z_A X)) (F0 m pc arr (z_rs (mR M) x))) T hT Xs
  generalize hty : mR M = rt at hr hok hd key ⊢
  rcases rt with _ | ty
  · exact W.vret hx hb hr key hrel.2.1.2.2 hd
  · cases ty with
    | long => exact W.lret hx hb hr key hrel.2.1.2.2 hd
    | _ => exact W.zret hx hb hr hok.2 key hrel.2.1.2.2 hd
theorem z_Ct.of {M : MI} {mc ms : Nat} {av ls : List AV} {g : Gm} {D : Mem} {Q : Int → Gm → Mem → Prop} {K : WP} (hM : z_MI M) (hl : zent av (mN M) = ls) (hn : (zal av).length ≤ mN M) (hs : z_Snd M ((g.1 + mc, g.2.1 + ms), (0, fun _ => 0), Q) 0 K) (h : K ls [] g D) : z_Ct M mc ms av g D Q := by
  intro hok hin l X b
  refine Met.ofW (cc := mC M) (maxL := mN M) (ret := mR M) hM.1 rfl ?_
  intro p e s m args below meth c s₁ B hml hv
  obtain ⟨rfl, hsz, hP, hSt⟩ := hv
  have hts := atoms_spec (ws := z_wds M) B.pre
  have hlv := lv_entry (av.map (z_conc X b)) (n := mN M) (by rw [zal_len]; exact hn)
  rw [lg_entry_eq]
  generalize (lg_sl (av.map (z_conc X b)) ++ List.replicate (mN M - (lg_sl (av.map (z_conc X b))).length) Slot.unset).toArray = arr at hlv ⊢
  subst hl
  have hlv2 : z_lv X b arr (mN M) (zent av (mN M)) := by
    refine ⟨hlv.1, hlv.2.1, by simp [zent]; omega, fun k v hk hr => ?_⟩
    unfold zent at hk
    by_cases hlt : k < (zal av).length
    · rw [List.getElem?_append_left hlt] at hk
      have := zal_args (X := X) (b := b) av 0 k v hk hr
      rw [Nat.zero_add] at this
      exact hlv.2.2 _ this
    · rw [List.getElem?_append_right (by omega)] at hk
      have := List.eq_of_mem_replicate (List.mem_of_getElem? hk)
      rw [this] at hr
      exact absurd hr (by decide)
  have hok2 : z_oks (zent av (mN M)) := by
    intro v hv
    rcases List.mem_append.mp hv with q | q
    · exact zal_ok hok v q
    · rw [List.eq_of_mem_replicate q]; trivial
  refine hs _ _ _ _ h (X := X) (b := b) (cells := 0) (slots := 0) (locs := []) (n0 := g.1) (s0 := g.2.1) ⟨B.exec, B.bytes, hml, findClass_of_methodNamed B.named, fun w hw => hts w (List.mem_cons_of_mem _ hw), hSt, ⟨hsz, Nat.le_refl _, Nat.le_refl _⟩, ⟨Nat.le_refl _, Nat.le_refl _⟩, (name_of_methodNamed B.named B.method).1, Or.inl rfl, ?_⟩ ⟨Nat.zero_add _, Nat.zero_add _, Nat.le_add_right _ _, Nat.le_add_right _ _⟩ ⟨hP, va_S.rf, hin⟩ hlv2 hok2 (fun _ h => by cases h)
  intro H locs g' D' x pc cells slots arr hrel hQ h1 h2 hcn hrok hd
  exact z_ret B.exec B.bytes B.returns B.notSynchronized hsz hrel hQ h1 h2 hcn hrok hd
