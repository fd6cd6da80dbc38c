/-! ===== 02: the calculus: abstract values, memories, a judgement on frames, a row an instruction ===== -/
abbrev AV : Type := Int ⊕ (Int ⊕ (Nat ⊕ (Nat ⊕ Nat)))
/-- int, long, the k-th object, the k-th text, and: 0 unset, 1 second half, 2 the script, 3 null, 4+k the bytes of text k -/
def zi (x : Int) : AV := .inl x
def zl (x : Int) : AV := .inr (.inl x)
def zr (k : Nat) : AV := .inr (.inr (.inl k))
def zs (k : Nat) : AV := .inr (.inr (.inr (.inl k)))
def zm (k : Nat) : AV := .inr (.inr (.inr (.inr k)))
/-- a field's kind: a reference to the t-th object; 0 int, 1 boolean, 2 long, 3 null -/
abbrev Kd : Type := Nat ⊕ Nat
/-- an object's shape: class and kinds of fields; or an array (of booleans?) and its length -/
abbrev Sh : Type := (Nat × List Kd) ⊕ (Bool × Nat)
/-- how many objects, slots; their shapes -/
abbrev Gm : Type := Nat × Nat × (Nat → Sh)
abbrev Mem : Type := Nat → Int → Int
abbrev WP : Type := List AV → List AV → Gm → Mem → Prop
/-- a method: name, bytes, locals, what it returns, frames and locals' room that it needs -/
abbrev MI : Type := MethodName × ByteArray × Nat × Option FieldType × Nat × Nat
abbrev mY (M : MI) : MethodName := M.1
abbrev mC (M : MI) : ByteArray := M.2.1
abbrev mN (M : MI) : Nat := M.2.2.1
abbrev mR (M : MI) : Option FieldType := M.2.2.2.1
abbrev mF (M : MI) : Nat := M.2.2.2.2.1
abbrev mL (M : MI) : Nat := M.2.2.2.2.2
/-- a run's bounds of objects and slots; its script; what holds at its end -/
abbrev En : Type := (Nat × Nat) × (Nat × (Nat → Int)) × (Int → Gm → Mem → Prop)
/-- where the machine has it all: classes and slots, two array classes, the first new address, texts and their bytes -/
abbrev Xe : Type := va_G × ClassId × ClassId × Nat × (Nat → Nat) × (Nat → Nat)
def zsl : List Nat := [4, 6, 4, 6, 4, 4, 7]
def zsb : List (List Int32) := [[98, 97, 99, 107], [108, 97, 100, 100, 101, 114], [103, 111, 101, 114], [119, 105, 110, 100, 111, 119], [116, 117, 114, 110], [100, 114, 97, 119], [109, 105, 110, 117, 116, 101, 115]]
def zsx (k : Nat) : Nat := [39, 59, 64, 69, 74, 79, 84].getD k 0
def zst (k : Nat) : String := ["back", "ladder", "goer", "window", "turn", "draw", "minutes"].getD k ""
def zR (x : Int) : Prop := -2147483648 ≤ x ∧ x ≤ 2147483647
def zR6 (x : Int) : Prop := -9223372036854775808 ≤ x ∧ x ≤ 9223372036854775807
def z_ok : AV → Prop
  | .inl x => zR x
  | .inr (.inl x) => zR6 x
  | .inr (.inr (.inr (.inl k))) => k < 7
  | _ => True
def z_oks (l : List AV) : Prop := ∀ v ∈ l, z_ok v
theorem z_oks_c {v : AV} {l : List AV} (h : z_ok v) (hl : z_oks l) : z_oks (v :: l) := fun w hw => (List.mem_cons.mp hw).elim (fun e => e ▸ h) (hl w)
theorem z_oks_t {v : AV} {l : List AV} (h : z_oks (v :: l)) : z_oks l := fun w hw => h w (List.mem_cons_of_mem _ hw)
theorem z_oks_h {v : AV} {l : List AV} (h : z_oks (v :: l)) : z_ok v := h v List.mem_cons_self
/-- the one static of the JDK of which only 'a reference or null' is known: 0 null, or one more than its address -/
def z_fmt (X : Xe) : Value := if X.2.2.2.2.2 7 = 0 then .null else .ref (X.2.2.2.2.2 7 - 1)
def z_conc (X : Xe) (b : Nat) : AV → Value
  | .inl x => .int (Int32.ofInt x)
  | .inr (.inl x) => .long (Int64.ofInt x)
  | .inr (.inr (.inl k)) => .ref (X.2.2.2.1 + k)
  | .inr (.inr (.inr (.inl k))) => .ref (X.2.2.2.2.1 k)
  | .inr (.inr (.inr (.inr k))) => if k = 2 then .ref b else if k = 11 then z_fmt X else if 4 ≤ k then .ref (X.2.2.2.2.2 (k - 4)) else .null
def z_fv (X : Xe) (f : Int → Int) (j : Nat) : Kd → Value
  | .inl t => .ref (X.2.2.2.1 + t)
  | .inr k => if k = 2 then .long (Int64.ofInt (f j)) else if k = 3 then .null else .int (Int32.ofInt (f j))
def z_ent (X : Xe) (sh : Sh) (f : Int → Int) : va_E := match sh with
  | .inl (ci, ks) => .inr (ci, ks.mapIdx (fun j kd => z_fv X f j kd))
  | .inr (bz, n) => .inl ((if bz = true then X.2.2.1 else X.2.1), n, .inl (fun j => Int32.ofInt (f j)))
def z_ws (X : Xe) (g : Gm) (D : Mem) : va_W := (List.range g.1).map fun k => (X.2.2.2.1 + k, z_ent X (g.2.2 k) (D k))
/-- numbers in their ranges -/
def z_in (g : Gm) (D : Mem) : Prop := ∀ k, k < g.1 → match g.2.2 k with
  | .inl (_, ks) => ∀ (j : Nat), (ks[j]? = some (.inr 0) → zR (D k j)) ∧ (ks[j]? = some (.inr 1) → D k j = 0 ∨ D k j = 1) ∧ (ks[j]? = some (.inr 2) → zR6 (D k j))
  | .inr (bz, n) => ∀ j : Nat, j < n → zR (D k j) ∧ (bz = true → D k j = 0 ∨ D k j = 1)
abbrev z_A (X : Xe) : Nat → Prop := fun q => X.2.2.2.1 ≤ q
/-- links between nest mates -/
def z_nst : List (String × Nat × MethodName × String) := [(RX5, 9, yX0_init, RX5), (RX0, 40, yX4_init, RX5), (RX5, 27, yX1_init, RX5), (RX0, 108, yX5_floorOf, RX5), (RX0, 111, yX5_loudness, RX5), (RX0, 115, yX5_apart, RX5), (RX0, 118, yX5_hearing, RX5)]
/-- what a state's tables and the texts are -/
def z_St (X : Xe) (s : State) : Prop := va_K X.1 clsL [(X.2.1, .int), (X.2.2.1, .boolean)] s ∧ vk_S 7 zsl zsb X.2.2.2.2.1 X.2.2.2.2.2 (z_A X) s s.heap ∧ (∀ k, k < 7 → vk_R RX1 (zsx k) (zst k) (X.2.2.2.2.1 k) s) ∧
  va_Z "java/lang/String" "COMPACT_STRINGS" "Z" (.int 1) (z_A X) s s.heap ∧ va_Z "jdk/internal/util/Preconditions" "SIOOBE_FORMATTER" "Ljava/util/function/BiFunction;" (z_fmt X) (z_A X) s s.heap ∧ ∀ q ∈ z_nst, va_Nw (.methodLinkNest q.1 q.2.1 q.2.2.1 q.2.2.2) s
def z_Rel (X : Xe) (g : Gm) (D : Mem) (s : State) (H : Heap) (locs : List Loc) : Prop := va_P X.1 clsL (z_ws X g D) H ∧ va_S (z_A X) s.heap H locs ∧ z_in g D
def z_real (v : AV) : Bool := match v with
  | .inr (.inr (.inr (.inr k))) => decide (2 ≤ k)
  | _ => true
def z_lv (X : Xe) (b : Nat) (arr : Array Slot) (nL : Nat) (ls : List AV) : Prop := arr.size = nL ∧ lv_wf arr ∧ ls.length = nL ∧ ∀ (k : Nat) (v : AV), ls[k]? = some v → z_real v = true → arr[k]? = some (.val (z_conc X b v))
def z_ri : Option FieldType → Instr
  | none => .return_
  | some .long => .lreturn
  | some _ => .ireturn
def z_rs : Option FieldType → Int → List Value
  | none, _ => []
  | some .long, x => [.long (Int64.ofInt x)]
  | some _, x => [.int (Int32.ofInt x)]
def z_rok : Option FieldType → Int → Prop
  | none, x => x = 0
  | some .long, x => zR6 x
  | some ty, x => zR x ∧ narrow ty (.int (Int32.ofInt x)) = .int (Int32.ofInt x)
def z_Cn (E : En) (n0 s0 : Nat) (g : Gm) (cells slots : Nat) : Prop := cells + n0 = g.1 ∧ slots + s0 = g.2.1 ∧ g.1 ≤ E.1.1 ∧ g.2.1 ≤ E.1.2
def z_Run (M : MI) (E : En) (X : Xe) (p : Program) (l : Launch) (e : Env) (R : Room) (s : State) (m : MethodId) (args : Array Value) (below : List Frame) (meth : Method) (c : Code) (Z : State → Prop) (b n0 s0 : Nat) : Prop :=
  p.tables.exec = Jvm.exec ∧ c.code = mC M ∧ c.maxLocals = mN M ∧ s.vm.findClass (mY M).cls = some m.cls ∧ (∀ w ∈ lw_tbl.filter goodWord, w.before args s = true) ∧ z_St X s ∧ (s.heap.size = X.2.2.2.1 + n0 ∧ E.1.1 ≤ n0 + R.cells ∧ E.1.2 ≤ s0 + R.slots) ∧ (mF M ≤ R.frames ∧ mL M ≤ R.locals) ∧ meth.name = (mY M).name ∧
  (E.2.1.1 = 0 ∨ (va_X b (E.2.1.1 - 1) (fun j => Int32.ofInt (E.2.1.2 j)) s s.heap ∧ b < s.heap.size ∧ b < X.2.2.2.1 ∧ E.2.1.1 < 2147483648 ∧ ∀ j, zR (E.2.1.2 j))) ∧
  ∀ (H : Heap) (locs : List Loc) (g : Gm) (D : Mem) (x : Int) (pc cells slots : Nat) (arr : Array Slot), z_Rel X g D s H locs → E.2.2 x g D → g.1 = E.1.1 → g.2.1 = E.1.2 → z_Cn E n0 s0 g cells slots → z_rok (mR M) x → decode (mC M) pc = .ok (z_ri (mR M), 1) → W p l e R s m args below meth c H locs cells slots Z (F0 m pc arr (z_rs (mR M) x))
def z_WF (M : MI) (E : En) (pc : Nat) (ls st : List AV) (g : Gm) (D : Mem) : Prop :=
  ∀ ⦃X : Xe⦄ ⦃p : Program⦄ ⦃l : Launch⦄ ⦃e : Env⦄ ⦃R : Room⦄ ⦃s : State⦄ ⦃m : MethodId⦄ ⦃args : Array Value⦄ ⦃below : List Frame⦄ ⦃meth : Method⦄ ⦃c : Code⦄ ⦃Z : State → Prop⦄ ⦃b : Nat⦄ ⦃H : Heap⦄ ⦃locs : List Loc⦄ ⦃cells slots : Nat⦄ ⦃arr : Array Slot⦄ ⦃n0 s0 : Nat⦄,
    z_Run M E X p l e R s m args below meth c Z b n0 s0 → z_Cn E n0 s0 g cells slots → z_Rel X g D s H locs → z_lv X b arr (mN M) ls → z_oks ls → z_oks st → W p l e R s m args below meth c H locs cells slots Z (F0 m pc arr (st.map (z_conc X b)))
def z_Snd (M : MI) (E : En) (pc : Nat) (K : WP) : Prop := ∀ (ls st : List AV) (g : Gm) (D : Mem), K ls st g D → z_WF M E pc ls st g D
-- locals and stacks
def gL : List AV → Nat → AV
  | [], _ => zm 0
  | a :: _, 0 => a
  | _ :: t, n + 1 => gL t n
def z_kl : AV → AV
  | .inr (.inl _) => zm 0
  | v => v
def sL : List AV → Nat → AV → List AV
  | [], _, _ => []
  | _ :: t, 0, v => v :: t
  | a :: t, 1, v => z_kl a :: sL t 0 v
  | a :: t, n + 2, v => a :: sL t (n + 1) v
theorem kl_i (x : Int) : z_kl (zi x) = zi x := rfl
theorem kl_l (x : Int) : z_kl (zl x) = zm 0 := rfl
theorem kl_r (x : Nat) : z_kl (zr x) = zr x := rfl
theorem kl_s (x : Nat) : z_kl (zs x) = zs x := rfl
theorem kl_m (x : Nat) : z_kl (zm x) = zm x := rfl
def qI (v : AV) (f : Int → Prop) : Prop := match v with
  | .inl x => f x
  | _ => False
def qJ (v : AV) (f : Int → Prop) : Prop := match v with
  | .inr (.inl x) => f x
  | _ => False
def qA (v : AV) : Prop := match v with
  | .inl _ => False
  | .inr (.inl _) => False
  | .inr (.inr (.inr (.inr k))) => 2 ≤ k ∧ k ≠ 3 ∧ k ≠ 11
  | _ => True
def pI (st : List AV) (f : Int → List AV → Prop) : Prop := match st with
  | (.inl x) :: t => f x t
  | _ => False
def pJ (st : List AV) (f : Int → List AV → Prop) : Prop := match st with
  | (.inr (.inl x)) :: t => f x t
  | _ => False
def pA (st : List AV) (f : Nat → List AV → Prop) : Prop := match st with
  | (.inr (.inr (.inl x))) :: t => f x t
  | _ => False
def pS (st : List AV) (f : Nat → List AV → Prop) : Prop := match st with
  | (.inr (.inr (.inr (.inl x)))) :: t => f x t
  | _ => False
def pM (st : List AV) (f : Nat → List AV → Prop) : Prop := match st with
  | (.inr (.inr (.inr (.inr x)))) :: t => f x t
  | _ => False
def pV (st : List AV) (f : AV → List AV → Prop) : Prop := match st with
  | v :: t => f v t
  | _ => False
def z_c1 (v : AV) : Prop := match v with
  | .inr (.inl _) => False
  | _ => True
def cS : List AV → Nat
  | [] => 0
  | .inr (.inl _) :: t => cS t + 2
  | _ :: t => cS t + 1
theorem qI_i (x : Int) (f : Int → Prop) : qI (zi x) f = f x := rfl
theorem qJ_l (x : Int) (f : Int → Prop) : qJ (zl x) f = f x := rfl
theorem qA_r (k : Nat) : qA (zr k) = True := rfl
theorem qA_s (k : Nat) : qA (zs k) = True := rfl
theorem pI_i (x : Int) (t : List AV) (f : Int → List AV → Prop) : pI (zi x :: t) f = f x t := rfl
theorem pJ_l (x : Int) (t : List AV) (f : Int → List AV → Prop) : pJ (zl x :: t) f = f x t := rfl
theorem pA_r (x : Nat) (t : List AV) (f : Nat → List AV → Prop) : pA (zr x :: t) f = f x t := rfl
theorem pS_s (x : Nat) (t : List AV) (f : Nat → List AV → Prop) : pS (zs x :: t) f = f x t := rfl
theorem pM_m (x : Nat) (t : List AV) (f : Nat → List AV → Prop) : pM (zm x :: t) f = f x t := rfl
theorem pV_v (v : AV) (t : List AV) (f : AV → List AV → Prop) : pV (v :: t) f = f v t := rfl
theorem c1_i (x : Int) : z_c1 (zi x) = True := rfl
theorem c1_r (x : Nat) : z_c1 (zr x) = True := rfl
theorem c1_s (x : Nat) : z_c1 (zs x) = True := rfl
theorem c1_m (x : Nat) : z_c1 (zm x) = True := rfl
theorem cS_0 : cS [] = 0 := rfl
theorem cS_i (x : Int) (t : List AV) : cS (zi x :: t) = cS t + 1 := rfl
theorem cS_l (x : Int) (t : List AV) : cS (zl x :: t) = cS t + 2 := rfl
theorem cS_r (x : Nat) (t : List AV) : cS (zr x :: t) = cS t + 1 := rfl
theorem cS_s (x : Nat) (t : List AV) : cS (zs x :: t) = cS t + 1 := rfl
theorem cS_m (x : Nat) (t : List AV) : cS (zm x :: t) = cS t + 1 := rfl
theorem pI_e {st : List AV} {f : Int → List AV → Prop} (h : pI st f) : ∃ x t, st = zi x :: t ∧ f x t := by
  unfold pI at h; split at h
  · exact ⟨_, _, rfl, h⟩
  · exact h.elim
theorem pJ_e {st : List AV} {f : Int → List AV → Prop} (h : pJ st f) : ∃ x t, st = zl x :: t ∧ f x t := by
  unfold pJ at h; split at h
  · exact ⟨_, _, rfl, h⟩
  · exact h.elim
theorem pA_e {st : List AV} {f : Nat → List AV → Prop} (h : pA st f) : ∃ x t, st = zr x :: t ∧ f x t := by
  unfold pA at h; split at h
  · exact ⟨_, _, rfl, h⟩
  · exact h.elim
theorem pS_e {st : List AV} {f : Nat → List AV → Prop} (h : pS st f) : ∃ x t, st = zs x :: t ∧ f x t := by
  unfold pS at h; split at h
  · exact ⟨_, _, rfl, h⟩
  · exact h.elim
theorem pM_e {st : List AV} {f : Nat → List AV → Prop} (h : pM st f) : ∃ x t, st = zm x :: t ∧ f x t := by
  unfold pM at h; split at h
  · exact ⟨_, _, rfl, h⟩
  · exact h.elim
theorem pV_e {st : List AV} {f : AV → List AV → Prop} (h : pV st f) : ∃ x t, st = x :: t ∧ f x t := by
  unfold pV at h; split at h
  · exact ⟨_, _, rfl, h⟩
  · exact h.elim
theorem qI_e {v : AV} {f : Int → Prop} (h : qI v f) : ∃ x, v = zi x ∧ f x := by
  unfold qI at h; split at h
  · exact ⟨_, rfl, h⟩
  · exact h.elim
theorem qJ_e {v : AV} {f : Int → Prop} (h : qJ v f) : ∃ x, v = zl x ∧ f x := by
  unfold qJ at h; split at h
  · exact ⟨_, rfl, h⟩
  · exact h.elim
theorem c1_e {X : Xe} {b : Nat} {v : AV} (h : z_c1 v) : (z_conc X b v).category = 1 := by
  unfold z_c1 at h
  split at h
  · exact h.elim
  · rename_i hv
    rcases v with x | x | x | x | x
    · rfl
    · exact (hv x rfl).elim
    · rfl
    · rfl
    · unfold z_conc
      dsimp only
      split
      · rfl
      · split
        · unfold z_fmt
          split <;> rfl
        · split <;> rfl
theorem cS_e {X : Xe} {b : Nat} : ∀ (st : List AV), ((st.map (z_conc X b)).map fun v => v.category).sum = cS st
  | [] => rfl
  | v :: t => by
    have ih := cS_e (X := X) (b := b) t
    rw [List.map_cons, List.map_cons, List.sum_cons, ih]
    rcases v with x | x | x | x | x
    · show 1 + cS t = cS t + 1
      omega
    · show 2 + cS t = cS t + 2
      omega
    · show 1 + cS t = cS t + 1
      omega
    · show 1 + cS t = cS t + 1
      omega
    · have h1 : (z_conc X b (.inr (.inr (.inr (.inr x))))).category = 1 := c1_e (v := .inr (.inr (.inr (.inr x)))) trivial
      rw [h1]
      show 1 + cS t = cS t + 1
      omega
theorem gL_s : ∀ {ls : List AV} {i : Nat} {v : AV}, gL ls i = v → v ≠ zm 0 → ls[i]? = some v
  | [], _, v, h, hn => (hn h.symm).elim
  | a :: t, 0, v, h, _ => by rw [← h]; rfl
  | a :: t, n + 1, v, h, hn => by
    rw [List.getElem?_cons_succ]
    exact gL_s (ls := t) h hn
theorem gL_ok {ls : List AV} {i : Nat} {v : AV} (h : gL ls i = v) (hn : v ≠ zm 0) (ho : z_oks ls) : z_ok v := ho v (List.mem_of_getElem? (gL_s h hn))
theorem sL_len : ∀ (ls : List AV) (i : Nat) (v : AV), (sL ls i v).length = ls.length
  | [], _, _ => by simp [sL]
  | _ :: t, 0, v => by simp [sL]
  | a :: t, 1, v => by simp [sL, sL_len t 0 v]
  | a :: t, n + 2, v => by simp [sL, sL_len t (n + 1) v]
theorem sL_get : ∀ (ls : List AV) (i : Nat) (v : AV) (k : Nat), (sL ls i v)[k]? = if k = i then (if k < ls.length then some v else none) else if k + 1 = i then (ls[k]?).map z_kl else ls[k]?
  | [], i, v, k => by
    simp [sL]
  | _ :: t, 0, v, k => by
    cases k with
    | zero => simp [sL]
    | succ k => simp [sL]
  | a :: t, 1, v, k => by
    cases k with
    | zero => simp [sL]
    | succ k =>
      have := sL_get t 0 v k
      simp only [sL, List.getElem?_cons_succ, this, List.length_cons]
      by_cases h : k = 0
      · subst h; simp
      · simp [h]
  | a :: t, n + 2, v, k => by
    cases k with
    | zero => simp [sL]
    | succ k =>
      have := sL_get t (n + 1) v k
      simp only [sL, List.getElem?_cons_succ, this, List.length_cons]
      simp only [Nat.add_right_cancel_iff, Nat.add_lt_add_iff_right]
theorem kl_ok {v : AV} (h : z_ok v) : z_ok (z_kl v) := by
  rcases v with x | x | x | x | x
  · exact h
  · trivial
  · exact h
  · exact h
  · exact h
theorem sL_ok {ls : List AV} {i : Nat} {v : AV} (h : z_oks ls) (hv : z_ok v) : z_oks (sL ls i v) := by
  intro w hw
  obtain ⟨k, hk⟩ := List.getElem?_of_mem hw
  rw [sL_get] at hk
  split at hk
  · split at hk
    · cases hk; exact hv
    · cases hk
  · split at hk
    · cases hq : ls[k]? with
      | none => rw [hq] at hk; cases hk
      | some u => rw [hq] at hk; cases hk; exact kl_ok (h u (List.mem_of_getElem? hq))
    · exact h w (List.mem_of_getElem? hk)
/-- the locals that are real, as the kit's rows want them -/
def z_prs (X : Xe) (b : Nat) (ls : List AV) : List (Nat × Value) := (ls.zipIdx.filter (fun q => z_real q.1)).map (fun q => (q.2, z_conc X b q.1))
theorem z_prs_mem {X : Xe} {b : Nat} {ls : List AV} {q : Nat × Value} : q ∈ z_prs X b ls ↔ ∃ v, ls[q.1]? = some v ∧ z_real v = true ∧ q.2 = z_conc X b v := by
  unfold z_prs
  rw [List.mem_map]
  constructor
  · rintro ⟨⟨v, k⟩, hm, rfl⟩
    rw [List.mem_filter] at hm
    exact ⟨v, List.mem_zipIdx_iff_getElem?.mp hm.1, hm.2, rfl⟩
  · rintro ⟨v, h1, h2, h3⟩
    refine ⟨(v, q.1), List.mem_filter.mpr ⟨List.mem_zipIdx_iff_getElem?.mpr h1, h2⟩, ?_⟩
    rw [← h3]
theorem z_lv_has {X : Xe} {b : Nat} {arr : Array Slot} {nL : Nat} {ls : List AV} (h : z_lv X b arr nL ls) : lv_has arr nL (z_prs X b ls) := by
  refine ⟨h.1, h.2.1, fun q hq => ?_⟩
  obtain ⟨v, h1, h2, h3⟩ := z_prs_mem.mp hq
  rw [h3]
  exact h.2.2.2 q.1 v h1 h2
theorem kl_c {v : AV} (h : z_real (z_kl v) = true) : z_kl v = v ∧ z_real v = true ∧ z_c1 v := by
  rcases v with x | x | x | x | x
  · exact ⟨rfl, rfl, trivial⟩
  · exact absurd (show false = true from h) (by decide)
  · exact ⟨rfl, rfl, trivial⟩
  · exact ⟨rfl, rfl, trivial⟩
  · exact ⟨rfl, h, trivial⟩
theorem z_lv_st1 {X : Xe} {b : Nat} {arr arr2 : Array Slot} {nL i : Nat} {ls : List AV} {v : AV} (h : z_lv X b arr nL ls) (hc : z_c1 v)
    (h2 : lv_has arr2 nL ((i, z_conc X b v) :: (z_prs X b ls).filter (fun q => !(q.1 == i) && !(q.1 + 1 == i && q.2.category == 2)))) : z_lv X b arr2 nL (sL ls i v) := by
  refine ⟨h2.1, h2.2.1, by rw [sL_len]; exact h.2.2.1, fun k w hk hr => ?_⟩
  rw [sL_get] at hk
  split at hk
  · rename_i e
    subst e
    split at hk
    · cases hk
      exact h2.2.2 (k, z_conc X b v) List.mem_cons_self
    · cases hk
  · rename_i e
    refine h2.2.2 (k, z_conc X b w) (List.mem_cons_of_mem _ (List.mem_filter.mpr ?_))
    split at hk
    · rename_i e1
      cases hq : ls[k]? with
      | none => rw [hq] at hk; cases hk
      | some u =>
        rw [hq] at hk
        cases hk
        obtain ⟨k1, k2, k3⟩ := kl_c hr
        refine ⟨z_prs_mem.mpr ⟨u, hq, k2, by rw [k1]⟩, ?_⟩
        rw [k1, c1_e k3]
        simp [e]
    · rename_i e1
      exact ⟨z_prs_mem.mpr ⟨w, hk, hr, rfl⟩, by simp [e, e1]⟩
theorem z_lv_st2 {X : Xe} {b : Nat} {arr arr2 : Array Slot} {nL i : Nat} {ls : List AV} {x : Int} (h : z_lv X b arr nL ls)
    (h2 : lv_has arr2 nL ((i, z_conc X b (zl x)) :: (z_prs X b ls).filter (fun q => !(q.1 == i) && (!(q.1 == i + 1) && !(q.1 + 1 == i && q.2.category == 2))))) : z_lv X b arr2 nL (sL (sL ls (i + 1) (zm 1)) i (zl x)) := by
  refine ⟨h2.1, h2.2.1, by rw [sL_len, sL_len]; exact h.2.2.1, fun k w hk hr => ?_⟩
  rw [sL_get, sL_len] at hk
  split at hk
  · rename_i e
    subst e
    split at hk
    · cases hk
      exact h2.2.2 (k, z_conc X b (zl x)) List.mem_cons_self
    · cases hk
  · rename_i e
    refine h2.2.2 (k, z_conc X b w) (List.mem_cons_of_mem _ (List.mem_filter.mpr ?_))
    split at hk
    · rename_i e1
      rw [sL_get, if_neg (by omega), if_neg (by omega)] at hk
      cases hq : ls[k]? with
      | none => rw [hq] at hk; cases hk
      | some u =>
        rw [hq] at hk
        cases hk
        obtain ⟨k1, k2, k3⟩ := kl_c hr
        refine ⟨z_prs_mem.mpr ⟨u, hq, k2, by rw [k1]⟩, ?_⟩
        rw [k1, c1_e k3]
        have e3 : ¬ k = i + 1 := by omega
        simp [e, e3]
    · rename_i e1
      rw [sL_get] at hk
      split at hk
      · rename_i e2
        split at hk
        · cases hk
          exact absurd hr (by decide)
        · cases hk
      · rename_i e2
        rw [if_neg (by omega)] at hk
        exact ⟨z_prs_mem.mpr ⟨w, hk, hr, rfl⟩, by simp [e, e1, e2]⟩
