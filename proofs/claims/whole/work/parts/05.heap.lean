/-! ===== 05: fields, arrays, new objects, calls ===== -/
/-- a field's link, decided by program -/
def z_FD (own : String) (idx ci k : Nat) : Prop := ∃ (C : String) (T : u_T) (N : Nat), clsL[ci]? = some (C, T, N) ∧ k < N ∧ (∀ w ∈ u_ws C T N, w ∈ z_tb) ∧ Cond.fieldLink own idx (T k).1 (T k).2.1 (T k).2.2.1 ∈ z_tb
def z_FP (own : String) (idx ci k : Nat) (fin : Bool) (ty : FieldType) : Prop := ∃ (C : String) (T : u_T) (N : Nat) (ty0 : Nat → FieldType), clsL[ci]? = some (C, T, N) ∧ k < N ∧ (∀ w ∈ u_ws C T N, w ∈ z_tb) ∧ Cond.fieldLink own idx (T k).1 (T k).2.1 (T k).2.2.1 ∈ z_tb ∧ (∀ k, k < N → parseFieldDescriptor (T k).2.2.1 = some (ty0 k)) ∧ (∀ a, a < N → ∀ b, b < N → a ≠ b → (T a).2.1 ≠ (T b).2.1) ∧ (T k).2.2.2 = fin ∧ ty0 k = ty ∧ (T k).1 = own
/-- a new object's link -/
def z_NW (own : String) (idx ci : Nat) (ks : List Kd) : Prop := ∃ (C : String) (T : u_T) (N : Nat) (ty : Nat → FieldType), clsL[ci]? = some (C, T, N) ∧ (∀ w ∈ u_ws C T N, w ∈ z_tb) ∧ (∀ k, k < N → parseFieldDescriptor (T k).2.2.1 = some (ty k)) ∧ Cond.classLink own idx C ∈ z_tb ∧ Cond.instantiable C N ∈ z_tb ∧ Cond.initialized C ∈ z_tb ∧ ks.length = N ∧ ∀ X : Xe, ∀ j, j < N → defaultValue (ty j) = vp_V (ks.mapIdx (fun j kd => z_fv X (fun _ => 0) j kd)) j
/-- behind new: one object more, its fields 0 -/
def zNew (g : Gm) (sh : Sh) (sl : Nat) : Gm := (g.1 + 1, g.2.1 + sl, fun o => if o = g.1 then sh else g.2.2 o)
def zZ (D : Mem) (o : Nat) : Mem := fun o' k => if o' = o then 0 else D o' k
def zSR (g : Gm) (o k t : Nat) : Gm := (g.1, g.2.1, fun o' => if o' = o then (match g.2.2 o with
  | .inl (ci, ks) => .inl (ci, ks.set k (.inl t))
  | x => x) else g.2.2 o')
/-- what comes behind arraycopy -/
def zCp (D : Mem) (src : Nat) (sp : Int) (dst : Nat) (dp n : Int) : Mem := fun o j => if o = dst ∧ dp ≤ j ∧ j < dp + n then D src (sp + (j - dp)) else D o j
section Heap
variable {M : MI} {E : En} {pc : Nat} {K : WP}
def w_getI (ci k : Nat) (j : Int) (kd : Nat) (K : WP) : WP := fun ls st g D => pA st fun o t => z_f g o ci k kd ∧ K ls (zi (D o j) :: t) g D
def w_getJ (ci k : Nat) (j : Int) (K : WP) : WP := fun ls st g D => pA st fun o t => z_f g o ci k 2 ∧ K ls (zl (D o j) :: t) g D
def w_getR (ci k : Nat) (K : WP) : WP := fun ls st g D => pA st fun o t => z_fr g o ci k (zf g o k) ∧ K ls (zr (zf g o k) :: t) g D
def w_putI (ci k : Nat) (j : Int) (K : WP) : WP := fun ls st g D => pI st fun x t => pA t fun o t2 => z_f g o ci k 0 ∧ K ls t2 g (zU D o j x)
def w_putZ (ci k : Nat) (j : Int) (K : WP) : WP := fun ls st g D => pI st fun x t => pA t fun o t2 => z_f g o ci k 1 ∧ (x = 0 ∨ x = 1) ∧ K ls t2 g (zU D o j x)
def w_putJ (ci k : Nat) (j : Int) (K : WP) : WP := fun ls st g D => pJ st fun x t => pA t fun o t2 => z_f g o ci k 2 ∧ K ls t2 g (zU D o j x)
def w_putR (ci k : Nat) (K : WP) : WP := fun ls st g D => pA st fun x t => pA t fun o t2 => z_f g o ci k 3 ∧ K ls t2 (zSR g o k x) D
theorem z_ls_len {X : Xe} {f : Int → Int} {ks : List Kd} : (ks.mapIdx (fun j kd => z_fv X f j kd)).length = ks.length := by simp
theorem z_fv_get {X : Xe} {f : Int → Int} {ks : List Kd} {k : Nat} {kd : Kd} (h : ks[k]? = some kd) : (ks.mapIdx (fun j kd => z_fv X f j kd))[k]? = some (z_fv X f k kd) := by
  rw [List.getElem?_mapIdx, h]; rfl
theorem S_getI {ci kf idx kd : Nat} {j : Int} (hd : decode (mC M) pc = .ok (.getfield idx, 3)) (hf : z_FD (mY M).cls idx ci kf) (hj : (kf : Int) = j) (hkd : kd ≤ 1) (k : z_Snd M E (pc + 3) K) : z_Snd M E pc (w_getI ci kf j kd K) := by
  intro ls st g D hw X p l e R s m args below meth c Z b H locs cells slots arr n0 s0 hr hc hrel hlv hol hos
  obtain ⟨o, t, rfl, ⟨ho, ks, hsh, hkk⟩, hA⟩ := pA_e hw
  obtain ⟨C, T, N, hcl, hk, hin, hlk⟩ := hf
  subst hj
  have hD := hrel.2.2 o ho
  rw [hsh] at hD
  have hv : z_ok (zi (D o (kf : Int))) := by
    have h7 := hD kf
    by_cases e0 : kd = 0
    · subst e0; exact h7.1 hkk
    · have e1 : kd = 1 := by omega
      subst e1
      rcases h7.2.1 hkk with q | q
      · rw [q]; exact zR_0
      · rw [q]; exact zR_1
  have hval : z_fv X (D o) kf (.inr kd) = .int (Int32.ofInt (D o (kf : Int))) := by
    have e2 : ¬ kd = 2 := by omega
    have e3 : ¬ kd = 3 := by omega
    simp [z_fv, e2, e3]
  refine va_get (D := X.1) (cl := clsL) (ws := z_ws X g D) hr.1 hr.2.1 hr.2.2.2.2.1 hin hr.2.2.2.1 hr.2.2.2.2.2.1.1 hrel.1 o (z_ws_obj ho hsh) hcl kf hk (hr.2.2.2.2.1 _ hlk) (fun _ q => q) (v := .int (Int32.ofInt (D o (kf : Int)))) (by rw [z_fv_get hkk, hval]) hd ?_
  exact k _ _ _ _ hA hr hc hrel hlv hol (z_oks_c hv (z_oks_t hos))
theorem S_getJ {ci kf idx : Nat} {j : Int} (hd : decode (mC M) pc = .ok (.getfield idx, 3)) (hf : z_FD (mY M).cls idx ci kf) (hj : (kf : Int) = j) (k : z_Snd M E (pc + 3) K) : z_Snd M E pc (w_getJ ci kf j K) := by
  intro ls st g D hw X p l e R s m args below meth c Z b H locs cells slots arr n0 s0 hr hc hrel hlv hol hos
  obtain ⟨o, t, rfl, ⟨ho, ks, hsh, hkk⟩, hA⟩ := pA_e hw
  obtain ⟨C, T, N, hcl, hk, hin, hlk⟩ := hf
  subst hj
  have hD := hrel.2.2 o ho
  rw [hsh] at hD
  have hv : z_ok (zl (D o (kf : Int))) := (hD kf).2.2 hkk
  refine va_get (D := X.1) (cl := clsL) (ws := z_ws X g D) hr.1 hr.2.1 hr.2.2.2.2.1 hin hr.2.2.2.1 hr.2.2.2.2.2.1.1 hrel.1 o (z_ws_obj ho hsh) hcl kf hk (hr.2.2.2.2.1 _ hlk) (fun _ q => q) (v := .long (Int64.ofInt (D o (kf : Int)))) (by rw [z_fv_get hkk]; rfl) hd ?_
  exact k _ _ _ _ hA hr hc hrel hlv hol (z_oks_c hv (z_oks_t hos))
theorem S_getR {ci kf idx : Nat} (hd : decode (mC M) pc = .ok (.getfield idx, 3)) (hf : z_FD (mY M).cls idx ci kf) (k : z_Snd M E (pc + 3) K) : z_Snd M E pc (w_getR ci kf K) := by
  intro ls st g D hw X p l e R s m args below meth c Z b H locs cells slots arr n0 s0 hr hc hrel hlv hol hos
  obtain ⟨o, t, rfl, ⟨ho, ks, hsh, hkk⟩, hA⟩ := pA_e hw
  obtain ⟨C, T, N, hcl, hk, hin, hlk⟩ := hf
  refine va_get (D := X.1) (cl := clsL) (ws := z_ws X g D) hr.1 hr.2.1 hr.2.2.2.2.1 hin hr.2.2.2.1 hr.2.2.2.2.2.1.1 hrel.1 o (z_ws_obj ho hsh) hcl kf hk (hr.2.2.2.2.1 _ hlk) (fun _ q => q) (v := .ref (X.2.2.2.1 + zf g o kf)) (by rw [z_fv_get hkk]; rfl) hd ?_
  exact k _ _ _ _ hA hr hc hrel hlv hol (z_oks_c trivial (z_oks_t hos))
theorem S_putI {ci kf idx : Nat} {j : Int} (hd : decode (mC M) pc = .ok (.putfield idx, 3)) (hf : z_FP (mY M).cls idx ci kf false .int) (hj : (kf : Int) = j) (k : z_Snd M E (pc + 3) K) : z_Snd M E pc (w_putI ci kf j K) := by
  intro ls st g D hw X p l e R s m args below meth c Z b H locs cells slots arr n0 s0 hr hc hrel hlv hol hos
  obtain ⟨x, t, rfl, hA⟩ := pI_e hw
  obtain ⟨o, t2, rfl, ⟨ho, ks, hsh, hkk⟩, hB⟩ := pA_e hA
  obtain ⟨C, T, N, ty0, hcl, hk, hin, hlk, hty, hnm, hfin, hety, hdc⟩ := hf
  subst hj
  have hx := z_oks_h hos
  refine va_put (D := X.1) (cl := clsL) (ws := z_ws X g D) hr.1 hr.2.1 hr.2.2.2.2.1 hin ty0 hty hnm hr.2.2.2.1 hr.2.2.2.2.2.1.1 hrel.1 z_D hrel.2.1 o (z_ws_obj ho hsh) hcl kf hk (hr.2.2.2.2.1 _ hlk) (fun _ q => q) hfin (ty := .int) (v := .int (Int32.ofInt x)) (by rw [hty kf hk, hety]) rfl rfl (by rw [z_ls_len]; exact (List.getElem?_eq_some_iff.mp hkk).1) hd (fun H1 locs1 hP1 hD1 hS1 => ?_)
  have e : (z_ws X g D).set o (X.2.2.2.1 + o, .inr (ci, (ks.mapIdx (fun j kd => z_fv X (D o) j kd)).set kf (.int (Int32.ofInt x)))) = z_ws X g (zU D o (kf : Int) x) := by
    rw [← z_ws_up, hsh, z_ent_up hkk]
    rfl
  rw [e] at hP1
  exact k _ _ _ _ hB hr hc ⟨hP1, hS1, z_in_up hrel.2.2 hsh hkk (fun q => hx) (fun q => absurd q (by decide)) (fun q => absurd q (by decide))⟩ hlv hol (z_oks_t (z_oks_t hos))
theorem S_putFI {ci kf idx : Nat} {j : Int} (hd : decode (mC M) pc = .ok (.putfield idx, 3)) (hf : z_FP (mY M).cls idx ci kf true .int) (hj : (kf : Int) = j) (hini : (mY M).name = "<init>") (k : z_Snd M E (pc + 3) K) : z_Snd M E pc (w_putI ci kf j K) := by
  intro ls st g D hw X p l e R s m args below meth c Z b H locs cells slots arr n0 s0 hr hc hrel hlv hol hos
  obtain ⟨x, t, rfl, hA⟩ := pI_e hw
  obtain ⟨o, t2, rfl, ⟨ho, ks, hsh, hkk⟩, hB⟩ := pA_e hA
  obtain ⟨C, T, N, ty0, hcl, hk, hin, hlk, hty, hnm, hfin, hety, hdc⟩ := hf
  subst hj
  have hx := z_oks_h hos
  have hname : meth.name = "<init>" := hr.2.2.2.2.2.2.2.2.1.trans hini
  refine va_putF (D := X.1) (cl := clsL) (ws := z_ws X g D) hr.1 hr.2.1 hr.2.2.2.2.1 hin ty0 hty hnm hr.2.2.2.1 hr.2.2.2.2.2.1.1 hrel.1 z_D hrel.2.1 o (z_ws_obj ho hsh) hcl kf hk (hr.2.2.2.2.1 _ hlk) (fun _ q => q) hfin hname hdc (ty := .int) (v := .int (Int32.ofInt x)) (by rw [hty kf hk, hety]) rfl rfl (by rw [z_ls_len]; exact (List.getElem?_eq_some_iff.mp hkk).1) hd (fun H1 locs1 hP1 hD1 hS1 => ?_)
  have e : (z_ws X g D).set o (X.2.2.2.1 + o, .inr (ci, (ks.mapIdx (fun j kd => z_fv X (D o) j kd)).set kf (.int (Int32.ofInt x)))) = z_ws X g (zU D o (kf : Int) x) := by
    rw [← z_ws_up, hsh, z_ent_up hkk]
    rfl
  rw [e] at hP1
  exact k _ _ _ _ hB hr hc ⟨hP1, hS1, z_in_up hrel.2.2 hsh hkk (fun q => hx) (fun q => absurd q (by decide)) (fun q => absurd q (by decide))⟩ hlv hol (z_oks_t (z_oks_t hos))
theorem S_putZ {ci kf idx : Nat} {j : Int} (hd : decode (mC M) pc = .ok (.putfield idx, 3)) (hf : z_FP (mY M).cls idx ci kf false .boolean) (hj : (kf : Int) = j) (k : z_Snd M E (pc + 3) K) : z_Snd M E pc (w_putZ ci kf j K) := by
  intro ls st g D hw X p l e R s m args below meth c Z b H locs cells slots arr n0 s0 hr hc hrel hlv hol hos
  obtain ⟨x, t, rfl, hA⟩ := pI_e hw
  obtain ⟨o, t2, rfl, ⟨ho, ks, hsh, hkk⟩, hz, hB⟩ := pA_e hA
  obtain ⟨C, T, N, ty0, hcl, hk, hin, hlk, hty, hnm, hfin, hety, hdc⟩ := hf
  subst hj
  have hx := z_oks_h hos
  refine va_put (D := X.1) (cl := clsL) (ws := z_ws X g D) hr.1 hr.2.1 hr.2.2.2.2.1 hin ty0 hty hnm hr.2.2.2.1 hr.2.2.2.2.2.1.1 hrel.1 z_D hrel.2.1 o (z_ws_obj ho hsh) hcl kf hk (hr.2.2.2.2.1 _ hlk) (fun _ q => q) hfin (ty := .boolean) (v := .int (Int32.ofInt x)) (by rw [hty kf hk, hety]) (by rcases hz with rfl | rfl <;> rfl) (by rcases hz with rfl | rfl <;> rfl) (by rw [z_ls_len]; exact (List.getElem?_eq_some_iff.mp hkk).1) hd (fun H1 locs1 hP1 hD1 hS1 => ?_)
  have e : (z_ws X g D).set o (X.2.2.2.1 + o, .inr (ci, (ks.mapIdx (fun j kd => z_fv X (D o) j kd)).set kf (.int (Int32.ofInt x)))) = z_ws X g (zU D o (kf : Int) x) := by
    rw [← z_ws_up, hsh, z_ent_up hkk]
    rfl
  rw [e] at hP1
  exact k _ _ _ _ hB hr hc ⟨hP1, hS1, z_in_up hrel.2.2 hsh hkk (fun q => absurd q (by decide)) (fun q => hz) (fun q => absurd q (by decide))⟩ hlv hol (z_oks_t (z_oks_t hos))
theorem S_putJ {ci kf idx : Nat} {j : Int} (hd : decode (mC M) pc = .ok (.putfield idx, 3)) (hf : z_FP (mY M).cls idx ci kf false .long) (hj : (kf : Int) = j) (k : z_Snd M E (pc + 3) K) : z_Snd M E pc (w_putJ ci kf j K) := by
  intro ls st g D hw X p l e R s m args below meth c Z b H locs cells slots arr n0 s0 hr hc hrel hlv hol hos
  obtain ⟨x, t, rfl, hA⟩ := pJ_e hw
  obtain ⟨o, t2, rfl, ⟨ho, ks, hsh, hkk⟩, hB⟩ := pA_e hA
  obtain ⟨C, T, N, ty0, hcl, hk, hin, hlk, hty, hnm, hfin, hety, hdc⟩ := hf
  subst hj
  have hx := z_oks_h hos
  refine va_put (D := X.1) (cl := clsL) (ws := z_ws X g D) hr.1 hr.2.1 hr.2.2.2.2.1 hin ty0 hty hnm hr.2.2.2.1 hr.2.2.2.2.2.1.1 hrel.1 z_D hrel.2.1 o (z_ws_obj ho hsh) hcl kf hk (hr.2.2.2.2.1 _ hlk) (fun _ q => q) hfin (ty := .long) (v := .long (Int64.ofInt x)) (by rw [hty kf hk, hety]) rfl rfl (by rw [z_ls_len]; exact (List.getElem?_eq_some_iff.mp hkk).1) hd (fun H1 locs1 hP1 hD1 hS1 => ?_)
  have e : (z_ws X g D).set o (X.2.2.2.1 + o, .inr (ci, (ks.mapIdx (fun j kd => z_fv X (D o) j kd)).set kf (.long (Int64.ofInt x)))) = z_ws X g (zU D o (kf : Int) x) := by
    rw [← z_ws_up, hsh, z_ent_up hkk]
    rfl
  rw [e] at hP1
  exact k _ _ _ _ hB hr hc ⟨hP1, hS1, z_in_up hrel.2.2 hsh hkk (fun q => absurd q (by decide)) (fun q => absurd q (by decide)) (fun q => hx)⟩ hlv hol (z_oks_t (z_oks_t hos))
def z_rty (ty : FieldType) : Prop := ∀ a : Nat, narrow ty (.ref a) = .ref a ∧ fits ty (.ref a) = true
theorem z_ws_sr {X : Xe} {g : Gm} {D : Mem} {o ci k t : Nat} {ks : List Kd} (ho : o < g.1) (hs : g.2.2 o = .inl (ci, ks)) (hk : k < ks.length) : (z_ws X g D).set o (X.2.2.2.1 + o, .inr (ci, (ks.mapIdx (fun j kd => z_fv X (D o) j kd)).set k (.ref (X.2.2.2.1 + t)))) = z_ws X (zSR g o k t) D := by
  have e1 : (zSR g o k t).2.2 o = .inl (ci, ks.set k (.inl t)) := by
    show (if o = o then _ else _) = _
    rw [if_pos rfl, hs]
  apply List.ext_getElem?
  intro i
  rw [List.getElem?_set]
  by_cases hi : i < g.1
  · by_cases hq : o = i
    · subst hq
      rw [if_pos rfl, if_pos (by simpa [z_ws] using hi), z_ws_get (g := zSR g o k t) hi, e1]
      congr 2
      show Sum.inr (ci, _) = Sum.inr (ci, _)
      congr 2
      apply List.ext_getElem?
      intro j
      rw [List.getElem?_set, List.getElem?_mapIdx, List.getElem?_mapIdx, List.getElem?_set, z_ls_len]
      by_cases hj : k = j
      · subst hj
        rw [if_pos rfl, if_pos rfl, if_pos hk, if_pos hk]
        rfl
      · rw [if_neg hj, if_neg hj]
    · rw [if_neg hq, z_ws_get hi, z_ws_get (g := zSR g o k t) hi]
      have : (zSR g o k t).2.2 i = g.2.2 i := by
        show (if i = o then _ else _) = _
        rw [if_neg (Ne.symm hq)]
      rw [this]
  · have e1 : (z_ws X g D)[i]? = none := by simp [z_ws]; omega
    have e2 : (z_ws X (zSR g o k t) D)[i]? = none := by simp [z_ws, zSR]; omega
    rw [e1, e2, if_neg (by omega)]
theorem z_in_sr {g : Gm} {D : Mem} {o k t ci : Nat} {ks : List Kd} (hin : z_in g D) (hs : g.2.2 o = .inl (ci, ks)) : z_in (zSR g o k t) D := by
  intro q hq
  have hD := hin q hq
  by_cases e : q = o
  · subst e
    have e1 : (zSR g q k t).2.2 q = .inl (ci, ks.set k (.inl t)) := by
      show (if q = q then _ else _) = _
      rw [if_pos rfl, hs]
    rw [e1]
    rw [hs] at hD
    intro j
    have h7 := hD j
    rw [List.getElem?_set]
    by_cases hj : k = j
    · rw [if_pos hj]
      split
      · exact ⟨fun e => (by cases e), fun e => (by cases e), fun e => (by cases e)⟩
      · exact ⟨fun e => (by cases e), fun e => (by cases e), fun e => (by cases e)⟩
    · rw [if_neg hj]
      exact h7
  · have e1 : (zSR g o k t).2.2 q = g.2.2 q := by
      show (if q = o then _ else _) = _
      rw [if_neg e]
    rw [e1]
    exact hD
theorem S_putR {ci kf idx : Nat} {ty : FieldType} (hd : decode (mC M) pc = .ok (.putfield idx, 3)) (hf : z_FP (mY M).cls idx ci kf true ty) (hty0 : z_rty ty) (hini : (mY M).name = "<init>") (k : z_Snd M E (pc + 3) K) : z_Snd M E pc (w_putR ci kf K) := by
  intro ls st g D hw X p l e R s m args below meth c Z b H locs cells slots arr n0 s0 hr hc hrel hlv hol hos
  obtain ⟨x, t, rfl, hA⟩ := pA_e hw
  obtain ⟨o, t2, rfl, ⟨ho, ks, hsh, hkk⟩, hB⟩ := pA_e hA
  obtain ⟨C, T, N, ty0, hcl, hk, hin, hlk, hty, hnm, hfin, hety, hdc⟩ := hf
  have hname : meth.name = "<init>" := hr.2.2.2.2.2.2.2.2.1.trans hini
  have hkl := (List.getElem?_eq_some_iff.mp hkk).1
  refine va_putF (D := X.1) (cl := clsL) (ws := z_ws X g D) hr.1 hr.2.1 hr.2.2.2.2.1 hin ty0 hty hnm hr.2.2.2.1 hr.2.2.2.2.2.1.1 hrel.1 z_D hrel.2.1 o (z_ws_obj ho hsh) hcl kf hk (hr.2.2.2.2.1 _ hlk) (fun _ q => q) hfin hname hdc (ty := ty) (v := .ref (X.2.2.2.1 + x)) (by rw [hty kf hk, hety]) (hty0 _).1 (hty0 _).2 (by rw [z_ls_len]; exact hkl) hd (fun H1 locs1 hP1 hD1 hS1 => ?_)
  rw [z_ws_sr ho hsh hkl] at hP1
  exact k _ _ _ _ hB hr hc ⟨hP1, hS1, z_in_sr hrel.2.2 hsh⟩ hlv hol (z_oks_t (z_oks_t hos))
-- arrays
def w_iald (K : WP) : WP := fun ls st g D => pI st fun i t => pA t fun a t2 => z_a g a false ∧ 0 ≤ i ∧ i < zn g a ∧ K ls (zi (D a i) :: t2) g D
def w_zald (K : WP) : WP := fun ls st g D => pI st fun i t => pA t fun a t2 => z_a g a true ∧ 0 ≤ i ∧ i < zn g a ∧ K ls (zi (D a i) :: t2) g D
def w_iast (K : WP) : WP := fun ls st g D => pI st fun x t => pI t fun i t2 => pA t2 fun a t3 => z_a g a false ∧ 0 ≤ i ∧ i < zn g a ∧ K ls t3 g (zU D a i x)
def w_zast (K : WP) : WP := fun ls st g D => pI st fun x t => pI t fun i t2 => pA t2 fun a t3 => z_a g a true ∧ 0 ≤ i ∧ i < zn g a ∧ (x = 0 ∨ x = 1) ∧ K ls t3 g (zU D a i x)
def w_alen (K : WP) : WP := fun ls st g D => pA st fun a t => z_a g a false ∧ K ls (zi (zn g a) :: t) g D
theorem zn_of {g : Gm} {a n : Nat} {bz : Bool} (h : g.2.2 a = .inr (bz, n)) : zn g a = n := by
  unfold zn
  rw [h]
theorem z_clamp {i : Int} (h : zR i) (h0 : 0 ≤ i) : (Int32.ofInt i).toNatClampNeg = i.toNat := Int32.toNatClampNeg_ofInt_of_le (by have := h.1; omega) (by have := h.2; omega)
theorem z_vpin {i : Int} {n : Nat} (h : zR i) (h0 : 0 ≤ i) (h1 : i < n) : vp_in (Int32.ofInt i) n := by
  unfold vp_in
  rw [z_clamp h h0]
  rintro (q | q)
  · have := (zR_lt h zR_0).mp q
    omega
  · omega
theorem z_arr_ok {g : Gm} {D : Mem} {a n : Nat} {bz : Bool} {i : Int} (hin : z_in g D) (ha : a < g.1) (hs : g.2.2 a = .inr (bz, n)) (h0 : 0 ≤ i) (h1 : i < n) : zR (D a i) := by
  have := hin a ha
  rw [hs] at this
  have h2 := (this i.toNat (by omega)).1
  rw [Int.toNat_of_nonneg h0] at h2
  exact h2
theorem S_iald (hd : decode (mC M) pc = .ok (.iaload, 1)) (k : z_Snd M E (pc + 1) K) : z_Snd M E pc (w_iald K) := by
  intro ls st g D hw X p l e R s m args below meth c Z b H locs cells slots arr n0 s0 hr hc hrel hlv hol hos
  obtain ⟨i, t, rfl, hA⟩ := pI_e hw
  obtain ⟨a, t2, rfl, ⟨ha, n, hn, hs⟩, h0, h1, hB⟩ := pA_e hA
  rw [zn_of hs] at h1
  have hi := z_oks_h hos
  refine va_iald (D := X.1) (cl := clsL) (ws := z_ws X g D) hr.1 hr.2.1 hr.2.2.2.2.2.1.1 hrel.1 a 0 (z_ws_arr ha hs) rfl (z_vpin hi h0 h1) hd ?_
  rw [z_clamp hi h0]
  show W p l e R s m args below meth c H locs cells slots Z (F0 m (pc + 1) arr (.int (Int32.ofInt (D a ((i.toNat : Nat) : Int))) :: _))
  rw [Int.toNat_of_nonneg h0]
  exact k _ _ _ _ hB hr hc hrel hlv hol (z_oks_c (z_arr_ok hrel.2.2 ha hs h0 h1) (z_oks_t (z_oks_t hos)))
theorem S_zald (hd : decode (mC M) pc = .ok (.baload, 1)) (k : z_Snd M E (pc + 1) K) : z_Snd M E pc (w_zald K) := by
  intro ls st g D hw X p l e R s m args below meth c Z b H locs cells slots arr n0 s0 hr hc hrel hlv hol hos
  obtain ⟨i, t, rfl, hA⟩ := pI_e hw
  obtain ⟨a, t2, rfl, ⟨ha, n, hn, hs⟩, h0, h1, hB⟩ := pA_e hA
  rw [zn_of hs] at h1
  have hi := z_oks_h hos
  refine va_zald (D := X.1) (cl := clsL) (ws := z_ws X g D) hr.1 hr.2.1 hr.2.2.2.2.2.1.1 hrel.1 a 1 (z_ws_arr ha hs) rfl (z_vpin hi h0 h1) hd ?_
  rw [z_clamp hi h0]
  show W p l e R s m args below meth c H locs cells slots Z (F0 m (pc + 1) arr (.int (Int32.ofInt (D a ((i.toNat : Nat) : Int))) :: _))
  rw [Int.toNat_of_nonneg h0]
  exact k _ _ _ _ hB hr hc hrel hlv hol (z_oks_c (z_arr_ok hrel.2.2 ha hs h0 h1) (z_oks_t (z_oks_t hos)))
theorem S_iast (hd : decode (mC M) pc = .ok (.iastore, 1)) (k : z_Snd M E (pc + 1) K) : z_Snd M E pc (w_iast K) := by
  intro ls st g D hw X p l e R s m args below meth c Z b H locs cells slots arr n0 s0 hr hc hrel hlv hol hos
  obtain ⟨x, t, rfl, hA⟩ := pI_e hw
  obtain ⟨i, t2, rfl, hB⟩ := pI_e hA
  obtain ⟨a, t3, rfl, ⟨ha, n, hn, hs⟩, h0, h1, hC⟩ := pA_e hB
  rw [zn_of hs] at h1
  have hx := z_oks_h hos
  have hi := z_oks_h (z_oks_t hos)
  refine va_iast (D := X.1) (cl := clsL) (ws := z_ws X g D) hr.1 hr.2.1 hr.2.2.2.2.2.1.1 hrel.1 z_D hrel.2.1 a 0 (z_ws_arr ha hs) rfl (z_vpin hi h0 h1) hd (fun H1 locs1 hP1 hD1 hS1 => ?_)
  rw [z_clamp hi h0] at hP1
  have e : (z_ws X g D).set a (X.2.2.2.1 + a, .inl ((if false = true then X.2.2.1 else X.2.1), n, .inl (upd (fun j => Int32.ofInt (D a j)) i.toNat (Int32.ofInt x)))) = z_ws X g (zU D a i x) := by
    rw [← z_ws_up, hs, z_ent_ua h0]
  rw [e] at hP1
  exact k _ _ _ _ hC hr hc ⟨hP1, hS1, z_in_ua hrel.2.2 hs hx (fun q => absurd q (by decide))⟩ hlv hol (z_oks_t (z_oks_t (z_oks_t hos)))
theorem S_zast (hd : decode (mC M) pc = .ok (.bastore, 1)) (k : z_Snd M E (pc + 1) K) : z_Snd M E pc (w_zast K) := by
  intro ls st g D hw X p l e R s m args below meth c Z b H locs cells slots arr n0 s0 hr hc hrel hlv hol hos
  obtain ⟨x, t, rfl, hA⟩ := pI_e hw
  obtain ⟨i, t2, rfl, hB⟩ := pI_e hA
  obtain ⟨a, t3, rfl, ⟨ha, n, hn, hs⟩, h0, h1, hz, hC⟩ := pA_e hB
  rw [zn_of hs] at h1
  have hx := z_oks_h hos
  have hi := z_oks_h (z_oks_t hos)
  refine va_zast (D := X.1) (cl := clsL) (ws := z_ws X g D) hr.1 hr.2.1 hr.2.2.2.2.2.1.1 hrel.1 z_D hrel.2.1 a 1 (z_ws_arr ha hs) rfl (z_vpin hi h0 h1) hd (fun H1 locs1 hP1 hD1 hS1 => ?_)
  rw [z_clamp hi h0] at hP1
  have e9 : vp_nar .boolean (Int32.ofInt x) = Int32.ofInt x := by rcases hz with rfl | rfl <;> rfl
  rw [e9] at hP1
  have e : (z_ws X g D).set a (X.2.2.2.1 + a, .inl ((if true = true then X.2.2.1 else X.2.1), n, .inl (upd (fun j => Int32.ofInt (D a j)) i.toNat (Int32.ofInt x)))) = z_ws X g (zU D a i x) := by
    rw [← z_ws_up, hs, z_ent_ua h0]
  rw [e] at hP1
  exact k _ _ _ _ hC hr hc ⟨hP1, hS1, z_in_ua hrel.2.2 hs hx (fun q => hz)⟩ hlv hol (z_oks_t (z_oks_t (z_oks_t hos)))
theorem S_alen (hd : decode (mC M) pc = .ok (.arraylength, 1)) (k : z_Snd M E (pc + 1) K) : z_Snd M E pc (w_alen K) := by
  intro ls st g D hw X p l e R s m args below meth c Z b H locs cells slots arr n0 s0 hr hc hrel hlv hol hos
  obtain ⟨a, t, rfl, ⟨ha, n, hn, hs⟩, hA⟩ := pA_e hw
  rw [zn_of hs] at hA
  refine va_alen (D := X.1) (cl := clsL) (ws := z_ws X g D) hr.1 hr.2.1 hr.2.2.2.2.2.1.1 hrel.1 a 0 (z_ws_arr ha hs) (ty := .int) rfl (v := Int32.ofInt (n : Int)) Int32.ofInt_eq_ofNat.symm hd ?_
  exact k _ _ _ _ hA hr hc hrel hlv hol (z_oks_c (show zR (n : Int) from ⟨by omega, by omega⟩) (z_oks_t hos))
-- new objects
def w_new (ci : Nat) (ks : List Kd) (K : WP) : WP := fun ls st g D => g.1 + 1 ≤ E.1.1 ∧ g.2.1 + ks.length ≤ E.1.2 ∧ K ls (zr g.1 :: st) (zNew g (.inl (ci, ks)) ks.length) (zZ D g.1)
def w_newa (bz : Bool) (K : WP) : WP := fun ls st g D => pI st fun n t => 0 ≤ n ∧ n ≤ 100000 ∧ g.1 + 1 ≤ E.1.1 ∧ g.2.1 + n.toNat ≤ E.1.2 ∧ K ls (zr g.1 :: t) (zNew g (.inr (bz, n.toNat)) n.toNat) (zZ D g.1)
theorem z_ws_new {X : Xe} {g : Gm} {D : Mem} {sh : Sh} {sl : Nat} : z_ws X (zNew g sh sl) (zZ D g.1) = z_ws X g D ++ [(X.2.2.2.1 + g.1, z_ent X sh (fun _ => 0))] := by
  unfold z_ws
  show (List.range (g.1 + 1)).map _ = _
  rw [List.range_succ, List.map_append]
  congr 1
  · apply List.map_congr_left
    intro k hk
    have hk' : k ≠ g.1 := by have := List.mem_range.mp hk; omega
    have e1 : (zNew g sh sl).2.2 k = g.2.2 k := by
      show (if k = g.1 then _ else _) = _
      rw [if_neg hk']
    have e2 : zZ D g.1 k = D k := by
      funext j
      show (if k = g.1 then _ else _) = _
      rw [if_neg hk']
    rw [e1, e2]
  · have e1 : (zNew g sh sl).2.2 g.1 = sh := by
      show (if g.1 = g.1 then _ else _) = _
      rw [if_pos rfl]
    have e2 : zZ D g.1 g.1 = fun _ => 0 := by
      funext j
      show (if g.1 = g.1 then _ else _) = _
      rw [if_pos rfl]
    show [(_, z_ent X ((zNew g sh sl).2.2 g.1) (zZ D g.1 g.1))] = _
    rw [e1, e2]
theorem z_in_new {g : Gm} {D : Mem} {sh : Sh} {sl : Nat} (hin : z_in g D) : z_in (zNew g sh sl) (zZ D g.1) := by
  intro k hk
  by_cases e : k = g.1
  · subst e
    have e2 : ∀ j, zZ D g.1 g.1 j = 0 := by
      intro j
      show (if g.1 = g.1 then _ else _) = _
      rw [if_pos rfl]
    split
    · intro j
      rw [e2]
      exact ⟨fun _ => zR_0, fun _ => Or.inl rfl, fun _ => ⟨by decide, by decide⟩⟩
    · intro j _
      rw [e2]
      exact ⟨zR_0, fun _ => Or.inl rfl⟩
  · have hk2 : k < g.1 := by
      have : k < g.1 + 1 := hk
      omega
    have e1 : (zNew g sh sl).2.2 k = g.2.2 k := by
      show (if k = g.1 then _ else _) = _
      rw [if_neg e]
    have e2 : zZ D g.1 k = D k := by
      funext j
      show (if k = g.1 then _ else _) = _
      rw [if_neg e]
    rw [e1, e2]
    exact hin k hk2
theorem z_new_at {X : Xe} {g : Gm} {D : Mem} {p : Program} {l : Launch} {e : Env} {R : Room} {s : State} {m : MethodId} {args : Array Value} {below : List Frame} {meth : Method} {c : Code} {T : State} {H1 : Heap} {locs : List Loc} {cells slots n0 q : Nat} {en : va_E} {cl : List vw_C} {G : va_G} (Xs : Stand p l e R s m args below meth c T locs cells slots) (hT : T.heap = H1) (hN : s.heap.size = X.2.2.2.1 + n0) (hc : cells + n0 = g.1 + 1) (hP : va_P G cl (z_ws X g D ++ [(q, en)]) H1) (hD : va_D (z_A X) (z_ws X g D ++ [(q, en)])) : q = X.2.2.2.1 + g.1 := by
  have h1 : T.heap.size ≤ s.heap.size + cells := Xs.same.2.2.1
  rw [hT] at h1
  have hl : (z_ws X g D).length = g.1 := by simp [z_ws]
  have hlast : (z_ws X g D ++ [(q, en)])[g.1]? = some (q, en) := by
    rw [List.getElem?_append_right (by omega), hl, Nat.sub_self]
    rfl
  have h2 : q < H1.size := (hP g.1 _ hlast).lt
  have h3 : X.2.2.2.1 ≤ q := hD.2 g.1 _ hlast
  by_cases h4 : q = X.2.2.2.1 + g.1
  · exact h4
  · have hi : q - X.2.2.2.1 < g.1 := by omega
    have h5 : (z_ws X g D ++ [(q, en)])[q - X.2.2.2.1]? = some (X.2.2.2.1 + (q - X.2.2.2.1), z_ent X (g.2.2 (q - X.2.2.2.1)) (D (q - X.2.2.2.1))) := by
      rw [List.getElem?_append_left (by omega)]
      exact z_ws_get hi
    have h6 := hD.1 _ _ _ _ h5 hlast (by show X.2.2.2.1 + (q - X.2.2.2.1) = q; omega)
    omega
theorem S_new {ci idx : Nat} {ks : List Kd} (hd : decode (mC M) pc = .ok (.new idx, 3)) (hf : z_NW (mY M).cls idx ci ks) (k : z_Snd M E (pc + 3) K) : z_Snd M E pc (w_new (E := E) ci ks K) := by
  intro ls st g D hw X p l e R s m args below meth c Z b H locs cells slots arr n0 s0 hr hc hrel hlv hol hos
  obtain ⟨h1, h2, h⟩ := hw
  obtain ⟨C, T, N, ty, hcl, hin, hty, hcl2, hins, hini, hlen, hdef⟩ := hf
  have hn := hr.2.2.2.2.2.2.1
  have hc1 := hc.1
  have hc2 := hc.2.1
  refine va_new (D := X.1) (cl := clsL) (ws := z_ws X g D) (A := z_A X) (H0 := s.heap) (c0 := c) hr.1 hr.2.1 hr.2.2.2.2.1 hin ty hty hr.2.2.2.1 (hr.2.2.2.2.1 _ hcl2) (hr.2.2.2.2.1 _ hins) (hr.2.2.2.2.1 _ hini) hr.2.2.2.2.2.1.1 hrel.1 z_D hrel.2.1 (fun q hq => by show X.2.2.2.1 ≤ q; omega) hcl (hdef X) (by omega) (by omega) hd (fun q H1 hP1 hD1 hS1 => ?_)
  intro Ts hT Xs
  have hq := z_new_at (X := X) (g := g) (D := D) Xs hT hn.1 (by omega) hP1 hD1
  subst hq
  have e : z_ws X g D ++ [(X.2.2.2.1 + g.1, .inr (ci, ks.mapIdx (fun j kd => z_fv X (fun _ => 0) j kd)))] = z_ws X (zNew g (.inl (ci, ks)) ks.length) (zZ D g.1) := (z_ws_new (X := X) (g := g) (D := D) (sh := .inl (ci, ks)) (sl := ks.length)).symm
  rw [e] at hP1
  refine k _ _ _ _ h hr ⟨?_, ?_, h1, h2⟩ ⟨hP1, hS1, z_in_new hrel.2.2⟩ hlv hol (z_oks_c trivial hos) Ts hT Xs
  · show cells + 1 + n0 = g.1 + 1
    omega
  · show slots + N + s0 = g.2.1 + ks.length
    omega
theorem S_newaI (hd : decode (mC M) pc = .ok (.newarray .int, 2)) (hwd : Cond.arrayClass .int ∈ z_tb) (k : z_Snd M E (pc + 2) K) : z_Snd M E pc (w_newa (E := E) false K) := by
  intro ls st g D hw X p l e R s m args below meth c Z b H locs cells slots arr n0 s0 hr hc hrel hlv hol hos
  obtain ⟨n, t, rfl, h0, hmax, h1, h2, h⟩ := pI_e hw
  have hn := hr.2.2.2.2.2.2.1
  have hc1 := hc.1
  have hc2 := hc.2.1
  have hnR := z_oks_h hos
  have hb9 : n.toNat * componentBytes .int ≤ 536870912 := by
    have h8 : componentBytes .int ≤ 8 := by decide
    have h9 := Nat.mul_le_mul_left n.toNat h8
    omega
  refine va_newa (D := X.1) (cl := clsL) (ws := z_ws X g D) (A := z_A X) (H0 := s.heap) (atype := .int) (ty := .int) (a0 := (n.toNat, .inl (fun j => Int32.ofInt 0))) hr.1 hr.2.1 (hr.2.2.2.2.1 _ hwd) rfl hr.2.2.2.2.2.1.1 hrel.1 z_D hrel.2.1 (fun q hq => by show X.2.2.2.1 ≤ q; omega) (fun _ => rfl) (fun q => by have := (zR_lt hnR zR_0).mp q; omega) (z_clamp hnR h0) hb9 (by omega) (by omega) hd (fun q cA H1 hK1 hP1 hD1 hS1 => ?_)
  have hA : cA = X.2.1 := by
    have e1 := (hK1.2 2 (cA, .int) rfl).2
    have e2 := (hr.2.2.2.2.2.1.1.2 0 (X.2.1, .int) rfl).2
    exact Option.some.inj (e1.symm.trans e2)
  subst hA
  intro Ts hT Xs
  have hq := z_new_at (X := X) (g := g) (D := D) Xs hT hn.1 (by omega) hP1 hD1
  subst hq
  have e : z_ws X g D ++ [(X.2.2.2.1 + g.1, .inl (X.2.1, n.toNat, .inl (fun j => Int32.ofInt 0)))] = z_ws X (zNew g (.inr (false, n.toNat)) n.toNat) (zZ D g.1) := (z_ws_new (X := X) (g := g) (D := D) (sh := .inr (false, n.toNat)) (sl := n.toNat)).symm
  rw [e] at hP1
  refine k _ _ _ _ h hr ⟨?_, ?_, h1, h2⟩ ⟨hP1, hS1, z_in_new hrel.2.2⟩ hlv hol (z_oks_c trivial (z_oks_t hos)) Ts hT Xs
  · show cells + 1 + n0 = g.1 + 1
    omega
  · show slots + n.toNat + s0 = g.2.1 + n.toNat
    omega
theorem S_newaZ (hd : decode (mC M) pc = .ok (.newarray .boolean, 2)) (hwd : Cond.arrayClass .boolean ∈ z_tb) (k : z_Snd M E (pc + 2) K) : z_Snd M E pc (w_newa (E := E) true K) := by
  intro ls st g D hw X p l e R s m args below meth c Z b H locs cells slots arr n0 s0 hr hc hrel hlv hol hos
  obtain ⟨n, t, rfl, h0, hmax, h1, h2, h⟩ := pI_e hw
  have hn := hr.2.2.2.2.2.2.1
  have hc1 := hc.1
  have hc2 := hc.2.1
  have hnR := z_oks_h hos
  have hb9 : n.toNat * componentBytes .boolean ≤ 536870912 := by
    have h8 : componentBytes .boolean ≤ 8 := by decide
    have h9 := Nat.mul_le_mul_left n.toNat h8
    omega
  refine va_newa (D := X.1) (cl := clsL) (ws := z_ws X g D) (A := z_A X) (H0 := s.heap) (atype := .boolean) (ty := .boolean) (a0 := (n.toNat, .inl (fun j => Int32.ofInt 0))) hr.1 hr.2.1 (hr.2.2.2.2.1 _ hwd) rfl hr.2.2.2.2.2.1.1 hrel.1 z_D hrel.2.1 (fun q hq => by show X.2.2.2.1 ≤ q; omega) (fun _ => rfl) (fun q => by have := (zR_lt hnR zR_0).mp q; omega) (z_clamp hnR h0) hb9 (by omega) (by omega) hd (fun q cA H1 hK1 hP1 hD1 hS1 => ?_)
  have hA : cA = X.2.2.1 := by
    have e1 := (hK1.2 2 (cA, .boolean) rfl).2
    have e2 := (hr.2.2.2.2.2.1.1.2 1 (X.2.2.1, .boolean) rfl).2
    exact Option.some.inj (e1.symm.trans e2)
  subst hA
  intro Ts hT Xs
  have hq := z_new_at (X := X) (g := g) (D := D) Xs hT hn.1 (by omega) hP1 hD1
  subst hq
  have e : z_ws X g D ++ [(X.2.2.2.1 + g.1, .inl (X.2.2.1, n.toNat, .inl (fun j => Int32.ofInt 0)))] = z_ws X (zNew g (.inr (true, n.toNat)) n.toNat) (zZ D g.1) := (z_ws_new (X := X) (g := g) (D := D) (sh := .inr (true, n.toNat)) (sl := n.toNat)).symm
  rw [e] at hP1
  refine k _ _ _ _ h hr ⟨?_, ?_, h1, h2⟩ ⟨hP1, hS1, z_in_new hrel.2.2⟩ hlv hol (z_oks_c trivial (z_oks_t hos)) Ts hT Xs
  · show cells + 1 + n0 = g.1 + 1
    omega
  · show slots + n.toNat + s0 = g.2.1 + n.toNat
    omega
def w_oinit (K : WP) : WP := fun ls st g D => pA st fun _ t => cS t ≤ 8 ∧ K ls t g D
theorem S_oinit {idx : Nat} (hd : decode (mC M) pc = .ok (.invokespecial idx, 3)) (h1 : Cond.methodLink (mY M).cls idx Lib.objectInit ∈ z_tb) (h2 : Cond.instanceMethod Lib.objectInit ∈ z_tb) (h3 : Cond.code Lib.objectInit ⟨#[0xb1]⟩ 1 none ∈ z_tb) (hF : 1 ≤ mF M) (hL : 20 ≤ mL M) (k : z_Snd M E (pc + 3) K) : z_Snd M E pc (w_oinit K) := by
  intro ls st g D hw X p l e R s m args below meth c Z b H locs cells slots arr n0 s0 hr hc hrel hlv hol hos
  obtain ⟨a, t, rfl, h0, hA⟩ := pA_e hw
  refine W.objInit hr.1 hr.2.1 hr.2.2.2.1 (hr.2.2.2.2.1 _ h1) (hr.2.2.2.2.1 _ h2) (hr.2.2.2.2.1 _ h3) (g := F0 m pc arr (z_conc X b (zr a) :: t.map (z_conc X b))) rfl (by rw [hr.2.2.1]; exact hlv.1) (a := X.2.2.2.1 + a) rfl hd (by have := hr.2.2.2.2.2.2.2.1.1; omega) (by
    have h8 := hr.2.2.2.2.2.2.2.1.2
    have h9 := cS_e (X := X) (b := b) t
    show 2 * 0 + _ + 12 ≤ _
    omega) ?_
  exact k _ _ _ _ hA hr hc hrel hlv hol (z_oks_t hos)
end Heap
